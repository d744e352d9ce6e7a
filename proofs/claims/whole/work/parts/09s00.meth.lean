/-- KeyKeepers.tally(II)I -/
def f_152 (x0 : Int32) (x1 : Int32) (I : Nat → Nat → Int32) (L : Nat → Nat → Int64) : Int32 × (Nat → Nat → Int32) × (Nat → Nat → Int64) :=
  let q0 := f_153 I;
  let q1 := f_13 x0 0 q0;
  if q1 = 0 then
    let q2 := f_14 (-1) I L;
    (q2.1, q2.2.1, q2.2.2)
  else
    let q3 := f_111 x0;
    let q4 := f_13 x1 0 q3;
    if q4 = 0 then
      let q8 := f_14 (-1) I L;
      (q8.1, q8.2.1, q8.2.2)
    else
      if (I 1 13) < 8 then
        let q5 := f_154 x0 x1 I L;
        let q6 := f_16 q5.1 q5.2.1 q5.2.2;
        (q6.1, q6.2.1, q6.2.2)
      else
        let q7 := f_14 (-5) I L;
        (q7.1, q7.2.1, q7.2.2)
def p_152 (x0 : Int32) (x1 : Int32) (I : Nat → Nat → Int32) (L : Nat → Nat → Int64) : Prop :=
  (let q0 := f_153 I;
    (let q1 := f_13 x0 0 q0;
      if q1 = 0 then
        p_14 (-1) I L ∧
        (let q2 := f_14 (-1) I L;
          True)
      else
        (let q3 := f_111 x0;
          (let q4 := f_13 x1 0 q3;
            if q4 = 0 then
              p_14 (-1) I L ∧
              (let q8 := f_14 (-1) I L;
                True)
            else
              if (I 1 13) < 8 then
                p_154 x0 x1 I L ∧
                (let q5 := f_154 x0 x1 I L;
                  True)
              else
                p_14 (-5) I L ∧
                (let q7 := f_14 (-5) I L;
                  True)))))
set_option maxRecDepth 100000 in
theorem s_152 {S : am_S} {d N : Nat} {T : Nat → Nat × Nat} {I : Nat → Nat → Int32} {L : Nat → Nat → Int64} {r : Nat → Nat → Option Nat} {Q : am_Q} {x0 : Int32} {x1 : Int32} (hp : p_152 x0 x1 I L) (hq : Q (some (.int (f_152 x0 x1 I L).1)) (N, am_ts T, (f_152 x0 x1 I L).2.1, (f_152 x0 x1 I L).2.2, am_rs r)) : am_E S 152 (d + 1) 0 0 0 [.ref 0, .int x0, .int x1] [] (N, am_ts T, I, L, am_rs r) Q := by
  unfold f_152 at hq
  unfold p_152 at hp
  try dsimp only at hq hp
  refine am_E.run [6] 2000 (show (am_E S 152 (d + 1) 0 0 6 [.ref 0, .int x0, .int x1] [.ref 1, .int 0, .int x0] (N, am_ts T, I, L, am_rs r) Q) from ?_)
  refine am_E.go ⟨fun v h9 => v = some (.int (f_153 I)) ∧ h9 = (N, am_ts T, I, L, am_rs r), s_153 ⟨rfl, rfl⟩, ?_⟩
  intro v h9 hv
  obtain ⟨rfl, rfl⟩ := hv
  generalize he_q0 : f_153 I = q0 at hq hp ⊢
  show (am_E S 152 (d + 1) 0 0 9 [.ref 0, .int x0, .int x1] [.int q0, .int 0, .int x0] (N, am_ts T, I, L, am_rs r) Q)
  refine am_E.go ⟨fun v h9 => v = some (.int (f_13 x0 0 q0)) ∧ h9 = (N, am_ts T, I, L, am_rs r), s_13 ⟨rfl, rfl⟩, ?_⟩
  intro v h9 hv
  obtain ⟨rfl, rfl⟩ := hv
  generalize he_q1 : f_13 x0 0 q0 = q1 at hq hp ⊢
  refine am_E.run [18, 29] 2000 (show (if q1 = 0 then (am_E S 152 (d + 1) 0 0 29 [.ref 0, .int x0, .int x1] [.int (-1), .ref 0] (N, am_ts T, I, L, am_rs r) Q) else (am_E S 152 (d + 1) 0 0 18 [.ref 0, .int x0, .int x1] [.int x0, .int 0, .int x1] (N, am_ts T, I, L, am_rs r) Q)) from ?_)
  by_cases hc : q1 = 0
  · rw [if_pos hc] at hq hp ⊢
    refine am_E.go ⟨fun v h9 => v = some (.int (f_14 (-1) I L).1) ∧ h9 = (N, am_ts T, (f_14 (-1) I L).2.1, (f_14 (-1) I L).2.2, am_rs r), s_14 hp.1 ⟨rfl, rfl⟩, ?_⟩
    replace hp := hp.2
    intro v h9 hv
    obtain ⟨rfl, rfl⟩ := hv
    generalize he_q2 : f_14 (-1) I L = q2 at hq ⊢
    refine am_E.run [] 2000 (show (True ∧ Q (some (.int q2.1)) (N, am_ts T, q2.2.1, q2.2.2, am_rs r)) from ?_)
    exact ⟨trivial, hq⟩
  · rw [if_neg hc] at hq hp ⊢
    refine am_E.go ⟨fun v h9 => v = some (.int (f_111 x0)) ∧ h9 = (N, am_ts T, I, L, am_rs r), s_111 ⟨rfl, rfl⟩, ?_⟩
    intro v h9 hv
    obtain ⟨rfl, rfl⟩ := hv
    generalize he_q3 : f_111 x0 = q3 at hq hp ⊢
    show (am_E S 152 (d + 1) 0 0 21 [.ref 0, .int x0, .int x1] [.int q3, .int 0, .int x1] (N, am_ts T, I, L, am_rs r) Q)
    refine am_E.go ⟨fun v h9 => v = some (.int (f_13 x1 0 q3)) ∧ h9 = (N, am_ts T, I, L, am_rs r), s_13 ⟨rfl, rfl⟩, ?_⟩
    intro v h9 hv
    obtain ⟨rfl, rfl⟩ := hv
    generalize he_q4 : f_13 x1 0 q3 = q4 at hq hp ⊢
    refine am_E.run [29, 48, 59] 2000 (show (if q4 = 0 then (am_E S 152 (d + 1) 0 0 29 [.ref 0, .int x0, .int x1] [.int (-1), .ref 0] (N, am_ts T, I, L, am_rs r) Q) else (if (I 1 13) < 8 then (am_E S 152 (d + 1) 0 0 59 [.ref 0, .int x0, .int x1] [.int x1, .int x0, .ref 1, .ref 0] (N, am_ts T, I, L, am_rs r) Q) else (am_E S 152 (d + 1) 0 0 48 [.ref 0, .int x0, .int x1] [.int (-5), .ref 0] (N, am_ts T, I, L, am_rs r) Q))) from ?_)
    by_cases hc : q4 = 0
    · rw [if_pos hc] at hq hp ⊢
      refine am_E.go ⟨fun v h9 => v = some (.int (f_14 (-1) I L).1) ∧ h9 = (N, am_ts T, (f_14 (-1) I L).2.1, (f_14 (-1) I L).2.2, am_rs r), s_14 hp.1 ⟨rfl, rfl⟩, ?_⟩
      replace hp := hp.2
      intro v h9 hv
      obtain ⟨rfl, rfl⟩ := hv
      generalize he_q8 : f_14 (-1) I L = q8 at hq ⊢
      refine am_E.run [] 2000 (show (True ∧ Q (some (.int q8.1)) (N, am_ts T, q8.2.1, q8.2.2, am_rs r)) from ?_)
      exact ⟨trivial, hq⟩
    · rw [if_neg hc] at hq hp ⊢
      by_cases hc : (I 1 13) < 8
      · rw [if_pos hc] at hq hp ⊢
        refine am_E.go ⟨fun v h9 => v = some (.int (f_154 x0 x1 I L).1) ∧ h9 = (N, am_ts T, (f_154 x0 x1 I L).2.1, (f_154 x0 x1 I L).2.2, am_rs r), s_154 hp.1 ⟨rfl, rfl⟩, ?_⟩
        replace hp := hp.2
        intro v h9 hv
        obtain ⟨rfl, rfl⟩ := hv
        generalize he_q5 : f_154 x0 x1 I L = q5 at hq ⊢
        show (am_E S 152 (d + 1) 0 0 62 [.ref 0, .int x0, .int x1] [.int q5.1, .ref 0] (N, am_ts T, q5.2.1, q5.2.2, am_rs r) Q)
        refine am_E.go ⟨fun v h9 => v = some (.int (f_16 q5.1 q5.2.1 q5.2.2).1) ∧ h9 = (N, am_ts T, (f_16 q5.1 q5.2.1 q5.2.2).2.1, (f_16 q5.1 q5.2.1 q5.2.2).2.2, am_rs r), s_16 ⟨rfl, rfl⟩, ?_⟩
        intro v h9 hv
        obtain ⟨rfl, rfl⟩ := hv
        generalize he_q6 : f_16 q5.1 q5.2.1 q5.2.2 = q6 at hq ⊢
        refine am_E.run [] 2000 (show (True ∧ Q (some (.int q6.1)) (N, am_ts T, q6.2.1, q6.2.2, am_rs r)) from ?_)
        exact ⟨trivial, hq⟩
      · rw [if_neg hc] at hq hp ⊢
        refine am_E.go ⟨fun v h9 => v = some (.int (f_14 (-5) I L).1) ∧ h9 = (N, am_ts T, (f_14 (-5) I L).2.1, (f_14 (-5) I L).2.2, am_rs r), s_14 hp.1 ⟨rfl, rfl⟩, ?_⟩
        replace hp := hp.2
        intro v h9 hv
        obtain ⟨rfl, rfl⟩ := hv
        generalize he_q7 : f_14 (-5) I L = q7 at hq ⊢
        refine am_E.run [] 2000 (show (True ∧ Q (some (.int q7.1)) (N, am_ts T, q7.2.1, q7.2.2, am_rs r)) from ?_)
        exact ⟨trivial, hq⟩
def lp_157_7 : Nat → Int32 → (Nat → Nat → Int32) → (Nat → Nat → Int64) → Nat × Int32 × Int32 × (Nat → Nat → Int32) × (Nat → Nat → Int64)
  | 0, v2, I, L => (0, 0, v2, I, L)
  | n + 1, v2, I, L =>
    let q0 := f_153 I;
    if q0 < v2 then
      (0, 0, v2, I, L)
    else
      if (Int32.ofNat 256) ≤ v2 then
        (0, 0, v2, I, L)
      else
        let q1 := f_158 v2 I L;
        if q1 = 0 then
          lp_157_7 n (v2 + 1) I L
        else
          lp_157_7 n (v2 + 1) (am_u (am_u I 60 (Int32.toNatClampNeg (I 59 1)) v2) 59 1 ((I 59 1) + 1)) L
def lq_157_7 : Nat → Int32 → (Nat → Nat → Int32) → (Nat → Nat → Int64) → Prop
  | 0, v2, I, L => False
  | n + 1, v2, I, L =>
    (let q0 := f_153 I;
      if q0 < v2 then
        True
      else
        if (Int32.ofNat 256) ≤ v2 then
          True
        else
          p_158 v2 I L ∧
          (let q1 := f_158 v2 I L;
            if q1 = 0 then
              lq_157_7 n (v2 + 1) I L
            else
              ¬ ((I 59 1) < 0 ∨ 256 ≤ Int32.toNatClampNeg (I 59 1)) ∧
              lq_157_7 n (v2 + 1) (am_u (am_u I 60 (Int32.toNatClampNeg (I 59 1)) v2) 59 1 ((I 59 1) + 1)) L))
set_option maxRecDepth 100000 in
theorem sl_157_7 {S : am_S} {d N : Nat} {T : Nat → Nat × Nat} {r : Nat → Nat → Option Nat} {Q : am_Q} : ∀ (n : Nat) {v2 : Int32} {I : Nat → Nat → Int32} {L : Nat → Nat → Int64} (hp : lq_157_7 n v2 I L) (h0 : (lp_157_7 n v2 I L).1 = 0 → am_E S 157 (d + 2) 0 0 58 [.ref 59, .ref 1, .int (lp_157_7 n v2 I L).2.2.1] [] (N, am_ts T, (lp_157_7 n v2 I L).2.2.2.1, (lp_157_7 n v2 I L).2.2.2.2, am_rs r) Q), am_E S 157 (d + 2) 0 0 7 [.ref 59, .ref 1, .int v2] [] (N, am_ts T, I, L, am_rs r) Q
  | 0, _, _, _, hp, _ => hp.elim
  | n + 1, v2, I, L, hp, h0 => by
    have ih := @sl_157_7 S d N T r Q n
    unfold lp_157_7 at h0
    unfold lq_157_7 at hp
    try dsimp only at h0 hp
    refine am_E.run [9] 2000 (show (am_E S 157 (d + 2) 0 0 9 [.ref 59, .ref 1, .int v2] [.ref 1, .int v2] (N, am_ts T, I, L, am_rs r) Q) from ?_)
    refine am_E.go ⟨fun v h9 => v = some (.int (f_153 I)) ∧ h9 = (N, am_ts T, I, L, am_rs r), s_153 ⟨rfl, rfl⟩, ?_⟩
    intro v h9 hv
    obtain ⟨rfl, rfl⟩ := hv
    generalize he_q0 : f_153 I = q0 at h0 hp ⊢
    refine am_E.run [26, 58] 2000 (show (if q0 < v2 then (am_E S 157 (d + 2) 0 0 58 [.ref 59, .ref 1, .int v2] [] (N, am_ts T, I, L, am_rs r) Q) else (if (Int32.ofNat 256) ≤ v2 then (am_E S 157 (d + 2) 0 0 58 [.ref 59, .ref 1, .int v2] [] (N, am_ts T, I, L, am_rs r) Q) else (am_E S 157 (d + 2) 0 0 26 [.ref 59, .ref 1, .int v2] [.int v2, .ref 1] (N, am_ts T, I, L, am_rs r) Q))) from ?_)
    by_cases hc : q0 < v2
    · rw [if_pos hc] at h0 hp ⊢
      exact h0 rfl
    · rw [if_neg hc] at h0 hp ⊢
      by_cases hc : (Int32.ofNat 256) ≤ v2
      · rw [if_pos hc] at h0 hp ⊢
        exact h0 rfl
      · rw [if_neg hc] at h0 hp ⊢
        refine am_E.go ⟨fun v h9 => v = some (.int (f_158 v2 I L)) ∧ h9 = (N, am_ts T, I, L, am_rs r), s_158 hp.1 ⟨rfl, rfl⟩, ?_⟩
        replace hp := hp.2
        intro v h9 hv
        obtain ⟨rfl, rfl⟩ := hv
        generalize he_q1 : f_158 v2 I L = q1 at h0 hp ⊢
        refine am_E.run [7] 2000 (show (if q1 = 0 then (am_E S 157 (d + 2) 0 0 7 [.ref 59, .ref 1, .int (v2 + 1)] [] (N, am_ts T, I, L, am_rs r) Q) else (if (I 59 1) < 0 ∨ 256 ≤ Int32.toNatClampNeg (I 59 1) then False else (am_E S 157 (d + 2) 0 0 7 [.ref 59, .ref 1, .int (v2 + 1)] [] (N, am_ts T, (am_u (am_u I 60 (Int32.toNatClampNeg (I 59 1)) v2) 59 1 ((I 59 1) + 1)), L, am_rs r) Q))) from ?_)
        by_cases hc : q1 = 0
        · rw [if_pos hc] at h0 hp ⊢
          exact ih hp h0
        · rw [if_neg hc] at h0 hp ⊢
          rw [if_neg hp.1]
          replace hp := hp.2
          exact ih hp h0
/-- KeyKeepers$Counting.gather(LKeyKeepers$Prison;)V -/
def f_157 (I : Nat → Nat → Int32) (L : Nat → Nat → Int64) : Int32 × (Nat → Nat → Int32) × (Nat → Nat → Int64) :=
  let q2 := lp_157_7 am_fu 0 (am_u I 59 1 0) L;
  (0, q2.2.2.2.1, q2.2.2.2.2)
def p_157 (I : Nat → Nat → Int32) (L : Nat → Nat → Int64) : Prop :=
  lq_157_7 am_fu 0 (am_u I 59 1 0) L ∧
  (let q2 := lp_157_7 am_fu 0 (am_u I 59 1 0) L;
    True)
set_option maxRecDepth 100000 in
theorem s_157 {S : am_S} {d N : Nat} {T : Nat → Nat × Nat} {I : Nat → Nat → Int32} {L : Nat → Nat → Int64} {r : Nat → Nat → Option Nat} {Q : am_Q} (hp : p_157 I L) (hq : Q (none) (N, am_ts T, (f_157 I L).2.1, (f_157 I L).2.2, am_rs r)) : am_E S 157 (d + 2) 0 0 0 [.ref 59, .ref 1, am_jk] [] (N, am_ts T, I, L, am_rs r) Q := by
  unfold f_157 at hq
  unfold p_157 at hp
  try dsimp only at hq hp
  refine am_E.run [7] 2000 (show (am_E S 157 (d + 2) 0 0 7 [.ref 59, .ref 1, .int 0] [] (N, am_ts T, (am_u I 59 1 0), L, am_rs r) Q) from ?_)
  refine sl_157_7 am_fu hp.1 (fun hk => ?_)
  · replace hp := hp.2
    generalize he_q2 : lp_157_7 am_fu 0 (am_u I 59 1 0) L = q2 at hq hp hk ⊢
    refine am_E.run [] 2000 (show (True ∧ Q (none) (N, am_ts T, q2.2.2.2.1, q2.2.2.2.2, am_rs r)) from ?_)
    exact ⟨trivial, hq⟩
