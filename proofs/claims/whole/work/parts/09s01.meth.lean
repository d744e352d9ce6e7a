def lp_161_2 : Nat → Int32 → (Nat → Nat → Int32) → (Nat → Nat → Int64) → Nat × Int32 × Int32 × (Nat → Nat → Int32) × (Nat → Nat → Int64)
  | 0, v2, I, L => (0, 0, v2, I, L)
  | n + 1, v2, I, L =>
    if (Int32.ofNat 2304) ≤ v2 then
      (0, 0, v2, I, L)
    else
      lp_161_2 n (v2 + 1) (am_u I 61 (Int32.toNatClampNeg v2) 0) L
def lq_161_2 : Nat → Int32 → (Nat → Nat → Int32) → (Nat → Nat → Int64) → Prop
  | 0, v2, I, L => False
  | n + 1, v2, I, L =>
    if (Int32.ofNat 2304) ≤ v2 then
      True
    else
      ¬ (v2 < 0 ∨ 2304 ≤ Int32.toNatClampNeg v2) ∧
      lq_161_2 n (v2 + 1) (am_u I 61 (Int32.toNatClampNeg v2) 0) L
set_option maxRecDepth 100000 in
theorem sl_161_2 {S : am_S} {d N : Nat} {T : Nat → Nat × Nat} {r : Nat → Nat → Option Nat} {Q : am_Q} : ∀ (n : Nat) {v2 : Int32} {I : Nat → Nat → Int32} {L : Nat → Nat → Int64} (hp : lq_161_2 n v2 I L) (h0 : (lp_161_2 n v2 I L).1 = 0 → am_E S 161 (d + 1) 0 0 24 [.ref 59, .ref 1, .int (lp_161_2 n v2 I L).2.2.1, am_jk] [] (N, am_ts T, (lp_161_2 n v2 I L).2.2.2.1, (lp_161_2 n v2 I L).2.2.2.2, am_rs r) Q), am_E S 161 (d + 1) 0 0 2 [.ref 59, .ref 1, .int v2, am_jk] [] (N, am_ts T, I, L, am_rs r) Q
  | 0, _, _, _, hp, _ => hp.elim
  | n + 1, v2, I, L, hp, h0 => by
    have ih := @sl_161_2 S d N T r Q n
    unfold lp_161_2 at h0
    unfold lq_161_2 at hp
    try dsimp only at h0 hp
    refine am_E.run [2, 24] 2000 (show (if (Int32.ofNat 2304) ≤ v2 then (am_E S 161 (d + 1) 0 0 24 [.ref 59, .ref 1, .int v2, am_jk] [] (N, am_ts T, I, L, am_rs r) Q) else (if v2 < 0 ∨ 2304 ≤ Int32.toNatClampNeg v2 then False else (am_E S 161 (d + 1) 0 0 2 [.ref 59, .ref 1, .int (v2 + 1), am_jk] [] (N, am_ts T, (am_u I 61 (Int32.toNatClampNeg v2) 0), L, am_rs r) Q))) from ?_)
    by_cases hc : (Int32.ofNat 2304) ≤ v2
    · rw [if_pos hc] at h0 hp ⊢
      exact h0 rfl
    · rw [if_neg hc] at h0 hp ⊢
      rw [if_neg hp.1]
      replace hp := hp.2
      exact ih hp h0
def lp_161_26 : Nat → Int32 → (Nat → Nat → Int32) → (Nat → Nat → Int64) → Nat × Int32 × Int32 × (Nat → Nat → Int32) × (Nat → Nat → Int64)
  | 0, v2, I, L => (0, 0, v2, I, L)
  | n + 1, v2, I, L =>
    if (I 59 1) ≤ v2 then
      (0, 0, v2, I, L)
    else
      let q1 := f_153 I;
      lp_161_26 n (v2 + 1) (am_u I 61 (Int32.toNatClampNeg ((q1 &&& ((I 60 (Int32.toNatClampNeg v2)) ^^^ (-1))) * 9)) 1) L
def lq_161_26 : Nat → Int32 → (Nat → Nat → Int32) → (Nat → Nat → Int64) → Prop
  | 0, v2, I, L => False
  | n + 1, v2, I, L =>
    if (I 59 1) ≤ v2 then
      True
    else
      (let q1 := f_153 I;
        ¬ (v2 < 0 ∨ 256 ≤ Int32.toNatClampNeg v2) ∧
        ¬ (((q1 &&& ((I 60 (Int32.toNatClampNeg v2)) ^^^ (-1))) * 9) < 0 ∨ 2304 ≤ Int32.toNatClampNeg ((q1 &&& ((I 60 (Int32.toNatClampNeg v2)) ^^^ (-1))) * 9)) ∧
        lq_161_26 n (v2 + 1) (am_u I 61 (Int32.toNatClampNeg ((q1 &&& ((I 60 (Int32.toNatClampNeg v2)) ^^^ (-1))) * 9)) 1) L)
set_option maxRecDepth 100000 in
theorem sl_161_26 {S : am_S} {d N : Nat} {T : Nat → Nat × Nat} {r : Nat → Nat → Option Nat} {Q : am_Q} : ∀ (n : Nat) {v2 : Int32} {I : Nat → Nat → Int32} {L : Nat → Nat → Int64} (hp : lq_161_26 n v2 I L) (h0 : (lp_161_26 n v2 I L).1 = 0 → am_E S 161 (d + 1) 0 0 62 [.ref 59, .ref 1, .int (lp_161_26 n v2 I L).2.2.1, am_jk] [] (N, am_ts T, (lp_161_26 n v2 I L).2.2.2.1, (lp_161_26 n v2 I L).2.2.2.2, am_rs r) Q), am_E S 161 (d + 1) 0 0 26 [.ref 59, .ref 1, .int v2, am_jk] [] (N, am_ts T, I, L, am_rs r) Q
  | 0, _, _, _, hp, _ => hp.elim
  | n + 1, v2, I, L, hp, h0 => by
    have ih := @sl_161_26 S d N T r Q n
    unfold lp_161_26 at h0
    unfold lq_161_26 at hp
    try dsimp only at h0 hp
    refine am_E.run [39, 62] 2000 (show (if (I 59 1) ≤ v2 then (am_E S 161 (d + 1) 0 0 62 [.ref 59, .ref 1, .int v2, am_jk] [] (N, am_ts T, I, L, am_rs r) Q) else (am_E S 161 (d + 1) 0 0 39 [.ref 59, .ref 1, .int v2, am_jk] [.ref 1, .ref 61] (N, am_ts T, I, L, am_rs r) Q)) from ?_)
    by_cases hc : (I 59 1) ≤ v2
    · rw [if_pos hc] at h0 hp ⊢
      exact h0 rfl
    · rw [if_neg hc] at h0 hp ⊢
      refine am_E.go ⟨fun v h9 => v = some (.int (f_153 I)) ∧ h9 = (N, am_ts T, I, L, am_rs r), s_153 ⟨rfl, rfl⟩, ?_⟩
      intro v h9 hv
      obtain ⟨rfl, rfl⟩ := hv
      generalize he_q1 : f_153 I = q1 at h0 hp ⊢
      refine am_E.run [26] 2000 (show (if v2 < 0 ∨ 256 ≤ Int32.toNatClampNeg v2 then False else (if ((q1 &&& ((I 60 (Int32.toNatClampNeg v2)) ^^^ (-1))) * 9) < 0 ∨ 2304 ≤ Int32.toNatClampNeg ((q1 &&& ((I 60 (Int32.toNatClampNeg v2)) ^^^ (-1))) * 9) then False else (am_E S 161 (d + 1) 0 0 26 [.ref 59, .ref 1, .int (v2 + 1), am_jk] [] (N, am_ts T, (am_u I 61 (Int32.toNatClampNeg ((q1 &&& ((I 60 (Int32.toNatClampNeg v2)) ^^^ (-1))) * 9)) 1), L, am_rs r) Q))) from ?_)
      rw [if_neg hp.1]
      replace hp := hp.2
      rw [if_neg hp.1]
      replace hp := hp.2
      exact ih hp h0
def lp_161_74 : Nat → Int32 → Int32 → (Nat → Nat → Int32) → (Nat → Nat → Int64) → Nat × Int32 × Int32 × (Nat → Nat → Int32) × (Nat → Nat → Int64)
  | 0, v2, v3, I, L => (0, 0, v3, I, L)
  | n + 1, v2, v3, I, L =>
    let q3 := f_153 I;
    if q3 < v3 then
      (0, 0, v3, I, L)
    else
      let q4 := f_20 v3 v2;
      if q4 = 0 then
        let q5 := f_21 v3 v2 1;
        let q6 := f_162 (v3 * 9) (q5 * 9) (v2 + 1) I L;
        lp_161_74 n v2 (v3 + 1) q6.2.1 q6.2.2
      else
        lp_161_74 n v2 (v3 + 1) I L
def lq_161_74 : Nat → Int32 → Int32 → (Nat → Nat → Int32) → (Nat → Nat → Int64) → Prop
  | 0, v2, v3, I, L => False
  | n + 1, v2, v3, I, L =>
    (let q3 := f_153 I;
      if q3 < v3 then
        True
      else
        (let q4 := f_20 v3 v2;
          if q4 = 0 then
            (let q5 := f_21 v3 v2 1;
              p_162 (v3 * 9) (q5 * 9) (v2 + 1) I L ∧
              (let q6 := f_162 (v3 * 9) (q5 * 9) (v2 + 1) I L;
                lq_161_74 n v2 (v3 + 1) q6.2.1 q6.2.2))
          else
            lq_161_74 n v2 (v3 + 1) I L))
set_option maxRecDepth 100000 in
theorem sl_161_74 {S : am_S} {d N : Nat} {T : Nat → Nat × Nat} {r : Nat → Nat → Option Nat} {Q : am_Q} : ∀ (n : Nat) {v2 : Int32} {v3 : Int32} {I : Nat → Nat → Int32} {L : Nat → Nat → Int64} (hp : lq_161_74 n v2 v3 I L) (h0 : (lp_161_74 n v2 v3 I L).1 = 0 → am_E S 161 (d + 1) 0 0 116 [.ref 59, .ref 1, .int v2, .int (lp_161_74 n v2 v3 I L).2.2.1] [] (N, am_ts T, (lp_161_74 n v2 v3 I L).2.2.2.1, (lp_161_74 n v2 v3 I L).2.2.2.2, am_rs r) Q), am_E S 161 (d + 1) 0 0 74 [.ref 59, .ref 1, .int v2, .int v3] [] (N, am_ts T, I, L, am_rs r) Q
  | 0, _, _, _, _, hp, _ => hp.elim
  | n + 1, v2, v3, I, L, hp, h0 => by
    have ih := @sl_161_74 S d N T r Q n
    unfold lp_161_74 at h0
    unfold lq_161_74 at hp
    try dsimp only at h0 hp
    refine am_E.run [76] 2000 (show (am_E S 161 (d + 1) 0 0 76 [.ref 59, .ref 1, .int v2, .int v3] [.ref 1, .int v3] (N, am_ts T, I, L, am_rs r) Q) from ?_)
    refine am_E.go ⟨fun v h9 => v = some (.int (f_153 I)) ∧ h9 = (N, am_ts T, I, L, am_rs r), s_153 ⟨rfl, rfl⟩, ?_⟩
    intro v h9 hv
    obtain ⟨rfl, rfl⟩ := hv
    generalize he_q3 : f_153 I = q3 at h0 hp ⊢
    refine am_E.run [84, 116] 2000 (show (if q3 < v3 then (am_E S 161 (d + 1) 0 0 116 [.ref 59, .ref 1, .int v2, .int v3] [] (N, am_ts T, I, L, am_rs r) Q) else (am_E S 161 (d + 1) 0 0 84 [.ref 59, .ref 1, .int v2, .int v3] [.int v2, .int v3] (N, am_ts T, I, L, am_rs r) Q)) from ?_)
    by_cases hc : q3 < v3
    · rw [if_pos hc] at h0 hp ⊢
      exact h0 rfl
    · rw [if_neg hc] at h0 hp ⊢
      refine am_E.go ⟨fun v h9 => v = some (.int (f_20 v3 v2)) ∧ h9 = (N, am_ts T, I, L, am_rs r), s_20 ⟨rfl, rfl⟩, ?_⟩
      intro v h9 hv
      obtain ⟨rfl, rfl⟩ := hv
      generalize he_q4 : f_20 v3 v2 = q4 at h0 hp ⊢
      refine am_E.run [74, 98] 2000 (show (if q4 = 0 then (am_E S 161 (d + 1) 0 0 98 [.ref 59, .ref 1, .int v2, .int v3] [.int 1, .int v2, .int v3, .int (v3 * 9), .ref 59] (N, am_ts T, I, L, am_rs r) Q) else (am_E S 161 (d + 1) 0 0 74 [.ref 59, .ref 1, .int v2, .int (v3 + 1)] [] (N, am_ts T, I, L, am_rs r) Q)) from ?_)
      by_cases hc : q4 = 0
      · rw [if_pos hc] at h0 hp ⊢
        refine am_E.go ⟨fun v h9 => v = some (.int (f_21 v3 v2 1)) ∧ h9 = (N, am_ts T, I, L, am_rs r), s_21 ⟨rfl, rfl⟩, ?_⟩
        intro v h9 hv
        obtain ⟨rfl, rfl⟩ := hv
        generalize he_q5 : f_21 v3 v2 1 = q5 at h0 hp ⊢
        refine am_E.run [107] 2000 (show (am_E S 161 (d + 1) 0 0 107 [.ref 59, .ref 1, .int v2, .int v3] [.int (v2 + 1), .int (q5 * 9), .int (v3 * 9), .ref 59] (N, am_ts T, I, L, am_rs r) Q) from ?_)
        refine am_E.go ⟨fun v h9 => v = none ∧ h9 = (N, am_ts T, (f_162 (v3 * 9) (q5 * 9) (v2 + 1) I L).2.1, (f_162 (v3 * 9) (q5 * 9) (v2 + 1) I L).2.2, am_rs r), s_162 hp.1 ⟨rfl, rfl⟩, ?_⟩
        replace hp := hp.2
        intro v h9 hv
        obtain ⟨rfl, rfl⟩ := hv
        generalize he_q6 : f_162 (v3 * 9) (q5 * 9) (v2 + 1) I L = q6 at h0 hp ⊢
        refine am_E.run [74] 2000 (show (am_E S 161 (d + 1) 0 0 74 [.ref 59, .ref 1, .int v2, .int (v3 + 1)] [] (N, am_ts T, q6.2.1, q6.2.2, am_rs r) Q) from ?_)
        exact ih hp h0
      · rw [if_neg hc] at h0 hp ⊢
        exact ih hp h0
def lp_161_64 : Nat → Int32 → (Nat → Nat → Int32) → (Nat → Nat → Int64) → Nat × Int32 × Int32 × (Nat → Nat → Int32) × (Nat → Nat → Int64)
  | 0, v2, I, L => (0, 0, v2, I, L)
  | n + 1, v2, I, L =>
    if (I 1 10) ≤ v2 then
      (0, 0, v2, I, L)
    else
      let q7 := lp_161_74 am_fu v2 0 I L;
      lp_161_64 n (v2 + 1) q7.2.2.2.1 q7.2.2.2.2
def lq_161_64 : Nat → Int32 → (Nat → Nat → Int32) → (Nat → Nat → Int64) → Prop
  | 0, v2, I, L => False
  | n + 1, v2, I, L =>
    if (I 1 10) ≤ v2 then
      True
    else
      lq_161_74 am_fu v2 0 I L ∧
      (let q7 := lp_161_74 am_fu v2 0 I L;
        lq_161_64 n (v2 + 1) q7.2.2.2.1 q7.2.2.2.2)
set_option maxRecDepth 100000 in
theorem sl_161_64 {S : am_S} {d N : Nat} {T : Nat → Nat × Nat} {r : Nat → Nat → Option Nat} {Q : am_Q} : ∀ (n : Nat) {v2 : Int32} {I : Nat → Nat → Int32} {L : Nat → Nat → Int64} (hp : lq_161_64 n v2 I L) (h0 : (lp_161_64 n v2 I L).1 = 0 → am_E S 161 (d + 1) 0 0 122 [.ref 59, .ref 1, .int (lp_161_64 n v2 I L).2.2.1, am_jk] [] (N, am_ts T, (lp_161_64 n v2 I L).2.2.2.1, (lp_161_64 n v2 I L).2.2.2.2, am_rs r) Q), am_E S 161 (d + 1) 0 0 64 [.ref 59, .ref 1, .int v2, am_jk] [] (N, am_ts T, I, L, am_rs r) Q
  | 0, _, _, _, hp, _ => hp.elim
  | n + 1, v2, I, L, hp, h0 => by
    have ih := @sl_161_64 S d N T r Q n
    unfold lp_161_64 at h0
    unfold lq_161_64 at hp
    try dsimp only at h0 hp
    refine am_E.run [74, 122] 2000 (show (if (I 1 10) ≤ v2 then (am_E S 161 (d + 1) 0 0 122 [.ref 59, .ref 1, .int v2, am_jk] [] (N, am_ts T, I, L, am_rs r) Q) else (am_E S 161 (d + 1) 0 0 74 [.ref 59, .ref 1, .int v2, .int 0] [] (N, am_ts T, I, L, am_rs r) Q)) from ?_)
    by_cases hc : (I 1 10) ≤ v2
    · rw [if_pos hc] at h0 hp ⊢
      exact h0 rfl
    · rw [if_neg hc] at h0 hp ⊢
      refine sl_161_74 am_fu hp.1 (fun hk => ?_)
      · replace hp := hp.2
        generalize he_q7 : lp_161_74 am_fu v2 0 I L = q7 at h0 hp hk ⊢
        refine am_E.run [64] 2000 (show (am_E S 161 (d + 1) 0 0 64 [.ref 59, .ref 1, .int (v2 + 1), .int q7.2.2.1] [] (N, am_ts T, q7.2.2.2.1, q7.2.2.2.2, am_rs r) Q) from ?_)
        exact am_E.junk (ih hp h0) (am_le.cons (am_le.cons (am_le.cons (am_le.jk am_le.nil))))
/-- KeyKeepers$Counting.spreadSets(LKeyKeepers$Prison;)V -/
def f_161 (I : Nat → Nat → Int32) (L : Nat → Nat → Int64) : Int32 × (Nat → Nat → Int32) × (Nat → Nat → Int64) :=
  let q0 := lp_161_2 am_fu 0 I L;
  let q2 := lp_161_26 am_fu 0 q0.2.2.2.1 q0.2.2.2.2;
  let q8 := lp_161_64 am_fu 0 q2.2.2.2.1 q2.2.2.2.2;
  (0, q8.2.2.2.1, q8.2.2.2.2)
def p_161 (I : Nat → Nat → Int32) (L : Nat → Nat → Int64) : Prop :=
  lq_161_2 am_fu 0 I L ∧
  (let q0 := lp_161_2 am_fu 0 I L;
    lq_161_26 am_fu 0 q0.2.2.2.1 q0.2.2.2.2 ∧
    (let q2 := lp_161_26 am_fu 0 q0.2.2.2.1 q0.2.2.2.2;
      lq_161_64 am_fu 0 q2.2.2.2.1 q2.2.2.2.2 ∧
      (let q8 := lp_161_64 am_fu 0 q2.2.2.2.1 q2.2.2.2.2;
        True)))
set_option maxRecDepth 100000 in
theorem s_161 {S : am_S} {d N : Nat} {T : Nat → Nat × Nat} {I : Nat → Nat → Int32} {L : Nat → Nat → Int64} {r : Nat → Nat → Option Nat} {Q : am_Q} (hp : p_161 I L) (hq : Q (none) (N, am_ts T, (f_161 I L).2.1, (f_161 I L).2.2, am_rs r)) : am_E S 161 (d + 1) 0 0 0 [.ref 59, .ref 1, am_jk, am_jk] [] (N, am_ts T, I, L, am_rs r) Q := by
  unfold f_161 at hq
  unfold p_161 at hp
  try dsimp only at hq hp
  refine am_E.run [2] 2000 (show (am_E S 161 (d + 1) 0 0 2 [.ref 59, .ref 1, .int 0, am_jk] [] (N, am_ts T, I, L, am_rs r) Q) from ?_)
  refine sl_161_2 am_fu hp.1 (fun hk => ?_)
  · replace hp := hp.2
    generalize he_q0 : lp_161_2 am_fu 0 I L = q0 at hq hp hk ⊢
    refine am_E.run [26] 2000 (show (am_E S 161 (d + 1) 0 0 26 [.ref 59, .ref 1, .int 0, am_jk] [] (N, am_ts T, q0.2.2.2.1, q0.2.2.2.2, am_rs r) Q) from ?_)
    refine sl_161_26 am_fu hp.1 (fun hk => ?_)
    · replace hp := hp.2
      generalize he_q2 : lp_161_26 am_fu 0 q0.2.2.2.1 q0.2.2.2.2 = q2 at hq hp hk ⊢
      refine am_E.run [64] 2000 (show (am_E S 161 (d + 1) 0 0 64 [.ref 59, .ref 1, .int 0, am_jk] [] (N, am_ts T, q2.2.2.2.1, q2.2.2.2.2, am_rs r) Q) from ?_)
      refine sl_161_64 am_fu hp.1 (fun hk => ?_)
      · replace hp := hp.2
        generalize he_q8 : lp_161_64 am_fu 0 q2.2.2.2.1 q2.2.2.2.2 = q8 at hq hp hk ⊢
        refine am_E.run [] 2000 (show (True ∧ Q (none) (N, am_ts T, q8.2.2.2.1, q8.2.2.2.2, am_rs r)) from ?_)
        exact ⟨trivial, hq⟩
