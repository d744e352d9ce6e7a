def lp_198_35 : Nat → Int32 → Int32 → Int32 → (Nat → Nat → Int32) → (Nat → Nat → Int64) → Nat × Int32 × Int32 × Int32 × (Nat → Nat → Int32) × (Nat → Nat → Int64)
  | 0, v1, v2, v3, I, L => (0, 0, v2, v3, I, L)
  | n + 1, v1, v2, v3, I, L =>
    if v1 ≤ v3 then
      (0, 0, v2, v3, I, L)
    else
      if v1 ≤ (v3 + 2) then
        lp_198_35 n v1 v2 (v3 + 3) (am_u I 66 11 ((I 66 11) + 1)) L
      else
        let q0 := f_190 (I 75 (Int32.toNatClampNeg v3)) (I 75 (Int32.toNatClampNeg (v3 + 1))) (I 75 (Int32.toNatClampNeg (v3 + 2))) I L;
        if q0.1 < 0 then
          lp_198_35 n v1 v2 (v3 + 3) (am_u q0.2.1 66 11 ((q0.2.1 66 11) + 1)) q0.2.2
        else
          lp_198_35 n v1 (v2 + 1) (v3 + 3) q0.2.1 q0.2.2
def lq_198_35 : Nat → Int32 → Int32 → Int32 → (Nat → Nat → Int32) → (Nat → Nat → Int64) → Prop
  | 0, v1, v2, v3, I, L => False
  | n + 1, v1, v2, v3, I, L =>
    if v1 ≤ v3 then
      True
    else
      if v1 ≤ (v3 + 2) then
        lq_198_35 n v1 v2 (v3 + 3) (am_u I 66 11 ((I 66 11) + 1)) L
      else
        ¬ (v3 < 0 ∨ 400 ≤ Int32.toNatClampNeg v3) ∧
        ¬ ((v3 + 1) < 0 ∨ 400 ≤ Int32.toNatClampNeg (v3 + 1)) ∧
        ¬ ((v3 + 2) < 0 ∨ 400 ≤ Int32.toNatClampNeg (v3 + 2)) ∧
        p_190 (I 75 (Int32.toNatClampNeg v3)) (I 75 (Int32.toNatClampNeg (v3 + 1))) (I 75 (Int32.toNatClampNeg (v3 + 2))) I L ∧
        (let q0 := f_190 (I 75 (Int32.toNatClampNeg v3)) (I 75 (Int32.toNatClampNeg (v3 + 1))) (I 75 (Int32.toNatClampNeg (v3 + 2))) I L;
          if q0.1 < 0 then
            lq_198_35 n v1 v2 (v3 + 3) (am_u q0.2.1 66 11 ((q0.2.1 66 11) + 1)) q0.2.2
          else
            lq_198_35 n v1 (v2 + 1) (v3 + 3) q0.2.1 q0.2.2)
set_option maxRecDepth 100000 in
theorem sl_198_35 {S : am_S} {d N : Nat} {T : Nat → Nat × Nat} {r : Nat → Nat → Option Nat} {Q : am_Q} : ∀ (n : Nat) {v1 : Int32} {v2 : Int32} {v3 : Int32} {I : Nat → Nat → Int32} {L : Nat → Nat → Int64} (hp : lq_198_35 n v1 v2 v3 I L) (h0 : (lp_198_35 n v1 v2 v3 I L).1 = 0 → am_E S 198 (d + 2) 0 0 98 [.ref 66, .int v1, .int (lp_198_35 n v1 v2 v3 I L).2.2.1, .int (lp_198_35 n v1 v2 v3 I L).2.2.2.1] [] (N, am_ts T, (lp_198_35 n v1 v2 v3 I L).2.2.2.2.1, (lp_198_35 n v1 v2 v3 I L).2.2.2.2.2, am_rs r) Q), am_E S 198 (d + 2) 0 0 35 [.ref 66, .int v1, .int v2, .int v3] [] (N, am_ts T, I, L, am_rs r) Q
  | 0, _, _, _, _, _, hp, _ => hp.elim
  | n + 1, v1, v2, v3, I, L, hp, h0 => by
    have ih := @sl_198_35 S d N T r Q n
    unfold lp_198_35 at h0
    unfold lq_198_35 at hp
    try dsimp only at h0 hp
    refine am_E.run [35, 70, 98] 2000 (show (if v1 ≤ v3 then (am_E S 198 (d + 2) 0 0 98 [.ref 66, .int v1, .int v2, .int v3] [] (N, am_ts T, I, L, am_rs r) Q) else (if v1 ≤ (v3 + 2) then (am_E S 198 (d + 2) 0 0 35 [.ref 66, .int v1, .int v2, .int (v3 + 3)] [] (N, am_ts T, (am_u I 66 11 ((I 66 11) + 1)), L, am_rs r) Q) else (if v3 < 0 ∨ 400 ≤ Int32.toNatClampNeg v3 then False else (if (v3 + 1) < 0 ∨ 400 ≤ Int32.toNatClampNeg (v3 + 1) then False else (if (v3 + 2) < 0 ∨ 400 ≤ Int32.toNatClampNeg (v3 + 2) then False else (am_E S 198 (d + 2) 0 0 70 [.ref 66, .int v1, .int v2, .int v3] [.int (I 75 (Int32.toNatClampNeg (v3 + 2))), .int (I 75 (Int32.toNatClampNeg (v3 + 1))), .int (I 75 (Int32.toNatClampNeg v3)), .ref 66] (N, am_ts T, I, L, am_rs r) Q)))))) from ?_)
    by_cases hc : v1 ≤ v3
    · rw [if_pos hc] at h0 hp ⊢
      exact h0 rfl
    · rw [if_neg hc] at h0 hp ⊢
      by_cases hc : v1 ≤ (v3 + 2)
      · rw [if_pos hc] at h0 hp ⊢
        exact ih hp h0
      · rw [if_neg hc] at h0 hp ⊢
        rw [if_neg hp.1]
        replace hp := hp.2
        rw [if_neg hp.1]
        replace hp := hp.2
        rw [if_neg hp.1]
        replace hp := hp.2
        refine am_E.go ⟨fun v h9 => v = some (.int (f_190 (I 75 (Int32.toNatClampNeg v3)) (I 75 (Int32.toNatClampNeg (v3 + 1))) (I 75 (Int32.toNatClampNeg (v3 + 2))) I L).1) ∧ h9 = (N, am_ts T, (f_190 (I 75 (Int32.toNatClampNeg v3)) (I 75 (Int32.toNatClampNeg (v3 + 1))) (I 75 (Int32.toNatClampNeg (v3 + 2))) I L).2.1, (f_190 (I 75 (Int32.toNatClampNeg v3)) (I 75 (Int32.toNatClampNeg (v3 + 1))) (I 75 (Int32.toNatClampNeg (v3 + 2))) I L).2.2, am_rs r), s_190 hp.1 ⟨rfl, rfl⟩, ?_⟩
        replace hp := hp.2
        intro v h9 hv
        obtain ⟨rfl, rfl⟩ := hv
        generalize he_q0 : f_190 (I 75 (Int32.toNatClampNeg v3)) (I 75 (Int32.toNatClampNeg (v3 + 1))) (I 75 (Int32.toNatClampNeg (v3 + 2))) I L = q0 at h0 hp ⊢
        refine am_E.run [35] 2000 (show (if q0.1 < 0 then (am_E S 198 (d + 2) 0 0 35 [.ref 66, .int v1, .int v2, .int (v3 + 3)] [] (N, am_ts T, (am_u q0.2.1 66 11 ((q0.2.1 66 11) + 1)), q0.2.2, am_rs r) Q) else (am_E S 198 (d + 2) 0 0 35 [.ref 66, .int v1, .int (v2 + 1), .int (v3 + 3)] [] (N, am_ts T, q0.2.1, q0.2.2, am_rs r) Q)) from ?_)
        by_cases hc : q0.1 < 0
        · rw [if_pos hc] at h0 hp ⊢
          exact ih hp h0
        · rw [if_neg hc] at h0 hp ⊢
          exact ih hp h0
/-- KeyKeepersModel.row()I -/
def f_198 (I : Nat → Nat → Int32) (L : Nat → Nat → Int64) : Int32 × (Nat → Nat → Int32) × (Nat → Nat → Int64) :=
  if (I 66 13) = 0 then
    let q3 := f_179 (-6) (am_u (am_u I 66 0 0) 66 13 0) L;
    (q3.1, q3.2.1, q3.2.2)
  else
    let q1 := lp_198_35 am_fu (I 66 13) 0 0 (am_u (am_u (am_u I 66 0 0) 66 13 0) 66 11 0) L;
    let q2 := f_184 q1.2.2.1 q1.2.2.2.2.1 q1.2.2.2.2.2;
    (q2.1, q2.2.1, q2.2.2)
def p_198 (I : Nat → Nat → Int32) (L : Nat → Nat → Int64) : Prop :=
  if (I 66 13) = 0 then
    p_179 (-6) (am_u (am_u I 66 0 0) 66 13 0) L ∧
    (let q3 := f_179 (-6) (am_u (am_u I 66 0 0) 66 13 0) L;
      True)
  else
    lq_198_35 am_fu (I 66 13) 0 0 (am_u (am_u (am_u I 66 0 0) 66 13 0) 66 11 0) L ∧
    (let q1 := lp_198_35 am_fu (I 66 13) 0 0 (am_u (am_u (am_u I 66 0 0) 66 13 0) 66 11 0) L;
      p_184 q1.2.2.1 q1.2.2.2.2.1 q1.2.2.2.2.2 ∧
      (let q2 := f_184 q1.2.2.1 q1.2.2.2.2.1 q1.2.2.2.2.2;
        True))
set_option maxRecDepth 100000 in
theorem s_198 {S : am_S} {d N : Nat} {T : Nat → Nat × Nat} {I : Nat → Nat → Int32} {L : Nat → Nat → Int64} {r : Nat → Nat → Option Nat} {Q : am_Q} (hp : p_198 I L) (hq : Q (some (.int (f_198 I L).1)) (N, am_ts T, (f_198 I L).2.1, (f_198 I L).2.2, am_rs r)) : am_E S 198 (d + 2) 0 0 0 [.ref 66, am_jk, am_jk, am_jk] [] (N, am_ts T, I, L, am_rs r) Q := by
  unfold f_198 at hq
  unfold p_198 at hp
  try dsimp only at hq hp
  refine am_E.run [22, 35] 2000 (show (if (I 66 13) = 0 then (am_E S 198 (d + 2) 0 0 22 [.ref 66, .int (I 66 13), am_jk, am_jk] [.int (-6), .ref 66] (N, am_ts T, (am_u (am_u I 66 0 0) 66 13 0), L, am_rs r) Q) else (am_E S 198 (d + 2) 0 0 35 [.ref 66, .int (I 66 13), .int 0, .int 0] [] (N, am_ts T, (am_u (am_u (am_u I 66 0 0) 66 13 0) 66 11 0), L, am_rs r) Q)) from ?_)
  by_cases hc : (I 66 13) = 0
  · rw [if_pos hc] at hq hp ⊢
    refine am_E.go ⟨fun v h9 => v = some (.int (f_179 (-6) (am_u (am_u I 66 0 0) 66 13 0) L).1) ∧ h9 = (N, am_ts T, (f_179 (-6) (am_u (am_u I 66 0 0) 66 13 0) L).2.1, (f_179 (-6) (am_u (am_u I 66 0 0) 66 13 0) L).2.2, am_rs r), s_179 hp.1 ⟨rfl, rfl⟩, ?_⟩
    replace hp := hp.2
    intro v h9 hv
    obtain ⟨rfl, rfl⟩ := hv
    generalize he_q3 : f_179 (-6) (am_u (am_u I 66 0 0) 66 13 0) L = q3 at hq ⊢
    refine am_E.run [] 2000 (show (True ∧ Q (some (.int q3.1)) (N, am_ts T, q3.2.1, q3.2.2, am_rs r)) from ?_)
    exact ⟨trivial, hq⟩
  · rw [if_neg hc] at hq hp ⊢
    refine sl_198_35 am_fu hp.1 (fun hk => ?_)
    · replace hp := hp.2
      generalize he_q1 : lp_198_35 am_fu (I 66 13) 0 0 (am_u (am_u (am_u I 66 0 0) 66 13 0) 66 11 0) L = q1 at hq hp hk ⊢
      refine am_E.run [100] 2000 (show (am_E S 198 (d + 2) 0 0 100 [.ref 66, .int (I 66 13), .int q1.2.2.1, .int q1.2.2.2.1] [.int q1.2.2.1, .ref 66] (N, am_ts T, q1.2.2.2.2.1, q1.2.2.2.2.2, am_rs r) Q) from ?_)
      refine am_E.go ⟨fun v h9 => v = some (.int (f_184 q1.2.2.1 q1.2.2.2.2.1 q1.2.2.2.2.2).1) ∧ h9 = (N, am_ts T, (f_184 q1.2.2.1 q1.2.2.2.2.1 q1.2.2.2.2.2).2.1, (f_184 q1.2.2.1 q1.2.2.2.2.1 q1.2.2.2.2.2).2.2, am_rs r), s_184 hp.1 ⟨rfl, rfl⟩, ?_⟩
      replace hp := hp.2
      intro v h9 hv
      obtain ⟨rfl, rfl⟩ := hv
      generalize he_q2 : f_184 q1.2.2.1 q1.2.2.2.2.1 q1.2.2.2.2.2 = q2 at hq hp ⊢
      refine am_E.run [] 2000 (show (True ∧ Q (some (.int q2.1)) (N, am_ts T, q2.2.1, q2.2.2, am_rs r)) from ?_)
      exact ⟨trivial, hq⟩
/-- KeyKeepersModel.rats()I -/
def f_199 (I : Nat → Nat → Int32) (L : Nat → Nat → Int64) : Int32 × (Nat → Nat → Int32) × (Nat → Nat → Int64) :=
  ((I 66 11), (am_u I 66 0 0), L)
set_option maxRecDepth 100000 in
theorem s_199 {S : am_S} {d N : Nat} {T : Nat → Nat × Nat} {I : Nat → Nat → Int32} {L : Nat → Nat → Int64} {r : Nat → Nat → Option Nat} {Q : am_Q} (hq : Q (some (.int (f_199 I L).1)) (N, am_ts T, (f_199 I L).2.1, (f_199 I L).2.2, am_rs r)) : am_E S 199 (d + 0) 0 0 0 [.ref 66] [] (N, am_ts T, I, L, am_rs r) Q := by
  unfold f_199 at hq
  try dsimp only at hq
  refine am_E.run [] 2000 (show (True ∧ Q (some (.int (I 66 11))) (N, am_ts T, (am_u I 66 0 0), L, am_rs r)) from ?_)
  exact ⟨trivial, hq⟩
def lp_201_3 : Nat → Int32 → Int32 → (Nat → Nat → Int32) → (Nat → Nat → Int64) → Nat × Int32 × Int32 × (Nat → Nat → Int32) × (Nat → Nat → Int64)
  | 0, v1, v2, I, L => (0, 0, v2, I, L)
  | n + 1, v1, v2, I, L =>
    if v2 < 0 then
      (0, 0, v2, I, L)
    else
      lp_201_3 n v1 (v2 + (-8)) (am_u (am_u I 75 (Int32.toNatClampNeg (I 66 13)) ((v1 >>> (v2 &&& 31)) &&& 255)) 66 13 ((I 66 13) + 1)) L
def lq_201_3 : Nat → Int32 → Int32 → (Nat → Nat → Int32) → (Nat → Nat → Int64) → Prop
  | 0, v1, v2, I, L => False
  | n + 1, v1, v2, I, L =>
    if v2 < 0 then
      True
    else
      ¬ ((I 66 13) < 0 ∨ 400 ≤ Int32.toNatClampNeg (I 66 13)) ∧
      lq_201_3 n v1 (v2 + (-8)) (am_u (am_u I 75 (Int32.toNatClampNeg (I 66 13)) ((v1 >>> (v2 &&& 31)) &&& 255)) 66 13 ((I 66 13) + 1)) L
set_option maxRecDepth 100000 in
theorem sl_201_3 {S : am_S} {d N : Nat} {T : Nat → Nat × Nat} {r : Nat → Nat → Option Nat} {Q : am_Q} : ∀ (n : Nat) {v1 : Int32} {v2 : Int32} {I : Nat → Nat → Int32} {L : Nat → Nat → Int64} (hp : lq_201_3 n v1 v2 I L) (h0 : (lp_201_3 n v1 v2 I L).1 = 0 → am_E S 201 (d + 0) 0 0 39 [.ref 66, .int v1, .int (lp_201_3 n v1 v2 I L).2.2.1] [] (N, am_ts T, (lp_201_3 n v1 v2 I L).2.2.2.1, (lp_201_3 n v1 v2 I L).2.2.2.2, am_rs r) Q), am_E S 201 (d + 0) 0 0 3 [.ref 66, .int v1, .int v2] [] (N, am_ts T, I, L, am_rs r) Q
  | 0, _, _, _, _, hp, _ => hp.elim
  | n + 1, v1, v2, I, L, hp, h0 => by
    have ih := @sl_201_3 S d N T r Q n
    unfold lp_201_3 at h0
    unfold lq_201_3 at hp
    try dsimp only at h0 hp
    refine am_E.run [3, 39] 2000 (show (if v2 < 0 then (am_E S 201 (d + 0) 0 0 39 [.ref 66, .int v1, .int v2] [] (N, am_ts T, I, L, am_rs r) Q) else (if (I 66 13) < 0 ∨ 400 ≤ Int32.toNatClampNeg (I 66 13) then False else (am_E S 201 (d + 0) 0 0 3 [.ref 66, .int v1, .int (v2 + (-8))] [] (N, am_ts T, (am_u (am_u I 75 (Int32.toNatClampNeg (I 66 13)) ((v1 >>> (v2 &&& 31)) &&& 255)) 66 13 ((I 66 13) + 1)), L, am_rs r) Q))) from ?_)
    by_cases hc : v2 < 0
    · rw [if_pos hc] at h0 hp ⊢
      exact h0 rfl
    · rw [if_neg hc] at h0 hp ⊢
      rw [if_neg hp.1]
      replace hp := hp.2
      exact ih hp h0
/-- KeyKeepersModel.four(I)V -/
def f_201 (x0 : Int32) (I : Nat → Nat → Int32) (L : Nat → Nat → Int64) : Int32 × (Nat → Nat → Int32) × (Nat → Nat → Int64) :=
  let q0 := lp_201_3 am_fu x0 24 I L;
  (0, q0.2.2.2.1, q0.2.2.2.2)
def p_201 (x0 : Int32) (I : Nat → Nat → Int32) (L : Nat → Nat → Int64) : Prop :=
  lq_201_3 am_fu x0 24 I L ∧
  (let q0 := lp_201_3 am_fu x0 24 I L;
    True)
set_option maxRecDepth 100000 in
theorem s_201 {S : am_S} {d N : Nat} {T : Nat → Nat × Nat} {I : Nat → Nat → Int32} {L : Nat → Nat → Int64} {r : Nat → Nat → Option Nat} {Q : am_Q} {x0 : Int32} (hp : p_201 x0 I L) (hq : Q (none) (N, am_ts T, (f_201 x0 I L).2.1, (f_201 x0 I L).2.2, am_rs r)) : am_E S 201 (d + 0) 0 0 0 [.ref 66, .int x0, am_jk] [] (N, am_ts T, I, L, am_rs r) Q := by
  unfold f_201 at hq
  unfold p_201 at hp
  try dsimp only at hq hp
  refine am_E.run [3] 2000 (show (am_E S 201 (d + 0) 0 0 3 [.ref 66, .int x0, .int 24] [] (N, am_ts T, I, L, am_rs r) Q) from ?_)
  refine sl_201_3 am_fu hp.1 (fun hk => ?_)
  · replace hp := hp.2
    generalize he_q0 : lp_201_3 am_fu x0 24 I L = q0 at hq hp hk ⊢
    refine am_E.run [] 2000 (show (True ∧ Q (none) (N, am_ts T, q0.2.2.2.1, q0.2.2.2.2, am_rs r)) from ?_)
    exact ⟨trivial, hq⟩
/-- KeyKeepersModel.end(I)I -/
def f_202 (x0 : Int32) (I : Nat → Nat → Int32) (L : Nat → Nat → Int64) : Int32 × (Nat → Nat → Int32) × (Nat → Nat → Int64) :=
  if x0 < 0 then
    ((-1), (am_u I 66 0 0), L)
  else
    if x0 ≤ (I 66 13) then
      (x0, (am_u (am_u I 66 0 0) 66 13 x0), L)
    else
      ((-1), (am_u I 66 0 0), L)
set_option maxRecDepth 100000 in
theorem s_202 {S : am_S} {d N : Nat} {T : Nat → Nat × Nat} {I : Nat → Nat → Int32} {L : Nat → Nat → Int64} {r : Nat → Nat → Option Nat} {Q : am_Q} {x0 : Int32} (hq : Q (some (.int (f_202 x0 I L).1)) (N, am_ts T, (f_202 x0 I L).2.1, (f_202 x0 I L).2.2, am_rs r)) : am_E S 202 (d + 0) 0 0 0 [.ref 66, .int x0] [] (N, am_ts T, I, L, am_rs r) Q := by
  unfold f_202 at hq
  try dsimp only at hq
  refine am_E.run [] 2000 (show (if x0 < 0 then (True ∧ Q (some (.int (-1))) (N, am_ts T, (am_u I 66 0 0), L, am_rs r)) else (if x0 ≤ (I 66 13) then (True ∧ Q (some (.int x0)) (N, am_ts T, (am_u (am_u I 66 0 0) 66 13 x0), L, am_rs r)) else (True ∧ Q (some (.int (-1))) (N, am_ts T, (am_u I 66 0 0), L, am_rs r)))) from ?_)
  by_cases hc : x0 < 0
  · rw [if_pos hc] at hq ⊢
    exact ⟨trivial, hq⟩
  · rw [if_neg hc] at hq ⊢
    by_cases hc : x0 ≤ (I 66 13)
    · rw [if_pos hc] at hq ⊢
      exact ⟨trivial, hq⟩
    · rw [if_neg hc] at hq ⊢
      exact ⟨trivial, hq⟩
/-- KeyKeepersModel.fault()I -/
def f_203 (I : Nat → Nat → Int32) (L : Nat → Nat → Int64) : Int32 × (Nat → Nat → Int32) × (Nat → Nat → Int64) :=
  ((I 66 18), (am_u I 66 0 0), L)
set_option maxRecDepth 100000 in
theorem s_203 {S : am_S} {d N : Nat} {T : Nat → Nat × Nat} {I : Nat → Nat → Int32} {L : Nat → Nat → Int64} {r : Nat → Nat → Option Nat} {Q : am_Q} (hq : Q (some (.int (f_203 I L).1)) (N, am_ts T, (f_203 I L).2.1, (f_203 I L).2.2, am_rs r)) : am_E S 203 (d + 0) 0 0 0 [.ref 66] [] (N, am_ts T, I, L, am_rs r) Q := by
  unfold f_203 at hq
  try dsimp only at hq
  refine am_E.run [] 2000 (show (True ∧ Q (some (.int (I 66 18))) (N, am_ts T, (am_u I 66 0 0), L, am_rs r)) from ?_)
  exact ⟨trivial, hq⟩
/-- KeyKeepersModel.isSmall(I)Z -/
def f_208 (x0 : Int32) : Int32 :=
  if x0 < 97 then
    0
  else
    if (122 : Int32) < x0 then
      0
    else
      1
set_option maxRecDepth 100000 in
theorem s_208 {S : am_S} {d N : Nat} {T : Nat → Nat × Nat} {I : Nat → Nat → Int32} {L : Nat → Nat → Int64} {r : Nat → Nat → Option Nat} {Q : am_Q} {x0 : Int32} (hq : Q (some (.int (f_208 x0))) (N, am_ts T, I, L, am_rs r)) : am_E S 208 (d + 0) 0 0 0 [.int x0] [] (N, am_ts T, I, L, am_rs r) Q := by
  unfold f_208 at hq
  try dsimp only at hq
  refine am_E.run [] 2000 (show (if x0 < 97 then (((0 : Int32) = 0 ∨ (0 : Int32) = 1) ∧ Q (some (.int 0)) (N, am_ts T, I, L, am_rs r)) else (if (122 : Int32) < x0 then (((0 : Int32) = 0 ∨ (0 : Int32) = 1) ∧ Q (some (.int 0)) (N, am_ts T, I, L, am_rs r)) else (((1 : Int32) = 0 ∨ (1 : Int32) = 1) ∧ Q (some (.int 1)) (N, am_ts T, I, L, am_rs r)))) from ?_)
  by_cases hc : x0 < 97
  · rw [if_pos hc] at hq ⊢
    exact ⟨Or.inl rfl, hq⟩
  · rw [if_neg hc] at hq ⊢
    by_cases hc : (122 : Int32) < x0
    · rw [if_pos hc] at hq ⊢
      exact ⟨Or.inl rfl, hq⟩
    · rw [if_neg hc] at hq ⊢
      exact ⟨Or.inr rfl, hq⟩
/-- KeyKeepersModel.isDigit(I)Z -/
def f_209 (x0 : Int32) : Int32 :=
  if x0 < 48 then
    0
  else
    if (57 : Int32) < x0 then
      0
    else
      1
set_option maxRecDepth 100000 in
theorem s_209 {S : am_S} {d N : Nat} {T : Nat → Nat × Nat} {I : Nat → Nat → Int32} {L : Nat → Nat → Int64} {r : Nat → Nat → Option Nat} {Q : am_Q} {x0 : Int32} (hq : Q (some (.int (f_209 x0))) (N, am_ts T, I, L, am_rs r)) : am_E S 209 (d + 0) 0 0 0 [.int x0] [] (N, am_ts T, I, L, am_rs r) Q := by
  unfold f_209 at hq
  try dsimp only at hq
  refine am_E.run [] 2000 (show (if x0 < 48 then (((0 : Int32) = 0 ∨ (0 : Int32) = 1) ∧ Q (some (.int 0)) (N, am_ts T, I, L, am_rs r)) else (if (57 : Int32) < x0 then (((0 : Int32) = 0 ∨ (0 : Int32) = 1) ∧ Q (some (.int 0)) (N, am_ts T, I, L, am_rs r)) else (((1 : Int32) = 0 ∨ (1 : Int32) = 1) ∧ Q (some (.int 1)) (N, am_ts T, I, L, am_rs r)))) from ?_)
  by_cases hc : x0 < 48
  · rw [if_pos hc] at hq ⊢
    exact ⟨Or.inl rfl, hq⟩
  · rw [if_neg hc] at hq ⊢
    by_cases hc : (57 : Int32) < x0
    · rw [if_pos hc] at hq ⊢
      exact ⟨Or.inl rfl, hq⟩
    · rw [if_neg hc] at hq ⊢
      exact ⟨Or.inr rfl, hq⟩
/-- KeyKeepersModel.isWord(J)Z -/
def f_211 (x0 : Int64) (I : Nat → Nat → Int32) (L : Nat → Nat → Int64) : Int32 :=
  if (I 66 16) = 1 then
    if (lg_cmp (L 66 17) x0) = 0 then
      1
    else
      0
  else
    0
set_option maxRecDepth 100000 in
theorem s_211 {S : am_S} {d N : Nat} {T : Nat → Nat × Nat} {I : Nat → Nat → Int32} {L : Nat → Nat → Int64} {r : Nat → Nat → Option Nat} {Q : am_Q} {x0 : Int64} (hq : Q (some (.int (f_211 x0 I L))) (N, am_ts T, I, L, am_rs r)) : am_E S 211 (d + 0) 0 0 0 [.ref 66, .long x0, am_jk] [] (N, am_ts T, I, L, am_rs r) Q := by
  unfold f_211 at hq
  try dsimp only at hq
  refine am_E.run [] 2000 (show (if (I 66 16) = 1 then (if (lg_cmp (L 66 17) x0) = 0 then (((1 : Int32) = 0 ∨ (1 : Int32) = 1) ∧ Q (some (.int 1)) (N, am_ts T, I, L, am_rs r)) else (((0 : Int32) = 0 ∨ (0 : Int32) = 1) ∧ Q (some (.int 0)) (N, am_ts T, I, L, am_rs r))) else (((0 : Int32) = 0 ∨ (0 : Int32) = 1) ∧ Q (some (.int 0)) (N, am_ts T, I, L, am_rs r))) from ?_)
  by_cases hc : (I 66 16) = 1
  · rw [if_pos hc] at hq ⊢
    by_cases hc : (lg_cmp (L 66 17) x0) = 0
    · rw [if_pos hc] at hq ⊢
      exact ⟨Or.inr rfl, hq⟩
    · rw [if_neg hc] at hq ⊢
      exact ⟨Or.inl rfl, hq⟩
  · rw [if_neg hc] at hq ⊢
    exact ⟨Or.inl rfl, hq⟩
/-- KeyKeepersModel.push(II)V -/
def f_215 (x0 : Int32) (x1 : Int32) (I : Nat → Nat → Int32) (L : Nat → Nat → Int64) : Int32 × (Nat → Nat → Int32) × (Nat → Nat → Int64) :=
  (0, (am_u (am_u (am_u I 79 (Int32.toNatClampNeg (I 66 29)) x0) 80 (Int32.toNatClampNeg (I 66 29)) x1) 66 29 ((I 66 29) + 1)), L)
def p_215 (x0 : Int32) (x1 : Int32) (I : Nat → Nat → Int32) (L : Nat → Nat → Int64) : Prop :=
  ¬ ((I 66 29) < 0 ∨ 400 ≤ Int32.toNatClampNeg (I 66 29)) ∧
  ¬ ((I 66 29) < 0 ∨ 400 ≤ Int32.toNatClampNeg (I 66 29)) ∧
  True
set_option maxRecDepth 100000 in
theorem s_215 {S : am_S} {d N : Nat} {T : Nat → Nat × Nat} {I : Nat → Nat → Int32} {L : Nat → Nat → Int64} {r : Nat → Nat → Option Nat} {Q : am_Q} {x0 : Int32} {x1 : Int32} (hp : p_215 x0 x1 I L) (hq : Q (none) (N, am_ts T, (f_215 x0 x1 I L).2.1, (f_215 x0 x1 I L).2.2, am_rs r)) : am_E S 215 (d + 0) 0 0 0 [.ref 66, .int x0, .int x1] [] (N, am_ts T, I, L, am_rs r) Q := by
  unfold f_215 at hq
  unfold p_215 at hp
  try dsimp only at hq hp
  refine am_E.run [] 2000 (show (if (I 66 29) < 0 ∨ 400 ≤ Int32.toNatClampNeg (I 66 29) then False else (if (I 66 29) < 0 ∨ 400 ≤ Int32.toNatClampNeg (I 66 29) then False else (True ∧ Q (none) (N, am_ts T, (am_u (am_u (am_u I 79 (Int32.toNatClampNeg (I 66 29)) x0) 80 (Int32.toNatClampNeg (I 66 29)) x1) 66 29 ((I 66 29) + 1)), L, am_rs r)))) from ?_)
  rw [if_neg hp.1]
  replace hp := hp.2
  rw [if_neg hp.1]
  replace hp := hp.2
  exact ⟨trivial, hq⟩
/-- KeyKeepersModel.isSign(I)Z -/
def f_216 (x0 : Int32) (I : Nat → Nat → Int32) (L : Nat → Nat → Int64) : Int32 :=
  if (I 66 16) = 3 then
    if (lg_cmp (L 66 17) (Int32.toInt64 x0)) = 0 then
      1
    else
      0
  else
    0
set_option maxRecDepth 100000 in
theorem s_216 {S : am_S} {d N : Nat} {T : Nat → Nat × Nat} {I : Nat → Nat → Int32} {L : Nat → Nat → Int64} {r : Nat → Nat → Option Nat} {Q : am_Q} {x0 : Int32} (hq : Q (some (.int (f_216 x0 I L))) (N, am_ts T, I, L, am_rs r)) : am_E S 216 (d + 0) 0 0 0 [.ref 66, .int x0] [] (N, am_ts T, I, L, am_rs r) Q := by
  unfold f_216 at hq
  try dsimp only at hq
  refine am_E.run [] 2000 (show (if (I 66 16) = 3 then (if (lg_cmp (L 66 17) (Int32.toInt64 x0)) = 0 then (((1 : Int32) = 0 ∨ (1 : Int32) = 1) ∧ Q (some (.int 1)) (N, am_ts T, I, L, am_rs r)) else (((0 : Int32) = 0 ∨ (0 : Int32) = 1) ∧ Q (some (.int 0)) (N, am_ts T, I, L, am_rs r))) else (((0 : Int32) = 0 ∨ (0 : Int32) = 1) ∧ Q (some (.int 0)) (N, am_ts T, I, L, am_rs r))) from ?_)
  by_cases hc : (I 66 16) = 3
  · rw [if_pos hc] at hq ⊢
    by_cases hc : (lg_cmp (L 66 17) (Int32.toInt64 x0)) = 0
    · rw [if_pos hc] at hq ⊢
      exact ⟨Or.inr rfl, hq⟩
    · rw [if_neg hc] at hq ⊢
      exact ⟨Or.inl rfl, hq⟩
  · rw [if_neg hc] at hq ⊢
    exact ⟨Or.inl rfl, hq⟩
def lp_219_4 : Nat → Int32 → Int32 → (Nat → Nat → Int32) → (Nat → Nat → Int64) → Nat × Int32 × Int32 × Int32
  | 0, v1, v2, I, L => (0, 0, v1, v2)
  | n + 1, v1, v2, I, L =>
    if (7 : Int32) ≤ v2 then
      (0, 0, v1, v2)
    else
      let q0 := f_211 (L 82 (Int32.toNatClampNeg v2)) I L;
      if q0 = 0 then
        lp_219_4 n v1 (v2 + 1) I L
      else
        lp_219_4 n (v2 + 1) (v2 + 1) I L
def lq_219_4 : Nat → Int32 → Int32 → (Nat → Nat → Int32) → (Nat → Nat → Int64) → Prop
  | 0, v1, v2, I, L => False
  | n + 1, v1, v2, I, L =>
    if (7 : Int32) ≤ v2 then
      True
    else
      ¬ (v2 < 0 ∨ 7 ≤ Int32.toNatClampNeg v2) ∧
      (let q0 := f_211 (L 82 (Int32.toNatClampNeg v2)) I L;
        if q0 = 0 then
          lq_219_4 n v1 (v2 + 1) I L
        else
          lq_219_4 n (v2 + 1) (v2 + 1) I L)
set_option maxRecDepth 100000 in
theorem sl_219_4 {S : am_S} {d N : Nat} {T : Nat → Nat × Nat} {r : Nat → Nat → Option Nat} {Q : am_Q} : ∀ (n : Nat) {v1 : Int32} {v2 : Int32} {I : Nat → Nat → Int32} {L : Nat → Nat → Int64} (hp : lq_219_4 n v1 v2 I L) (h0 : (lp_219_4 n v1 v2 I L).1 = 0 → am_E S 219 (d + 1) 0 0 37 [.ref 66, .int (lp_219_4 n v1 v2 I L).2.2.1, .int (lp_219_4 n v1 v2 I L).2.2.2] [] (N, am_ts T, I, L, am_rs r) Q), am_E S 219 (d + 1) 0 0 4 [.ref 66, .int v1, .int v2] [] (N, am_ts T, I, L, am_rs r) Q
  | 0, _, _, _, _, hp, _ => hp.elim
  | n + 1, v1, v2, I, L, hp, h0 => by
    have ih := @sl_219_4 S d N T r Q n
    unfold lp_219_4 at h0
    unfold lq_219_4 at hp
    try dsimp only at h0 hp
    refine am_E.run [17, 37] 2000 (show (if (7 : Int32) ≤ v2 then (am_E S 219 (d + 1) 0 0 37 [.ref 66, .int v1, .int v2] [] (N, am_ts T, I, L, am_rs r) Q) else (if v2 < 0 ∨ 7 ≤ Int32.toNatClampNeg v2 then False else (am_E S 219 (d + 1) 0 0 17 [.ref 66, .int v1, .int v2] [.long (L 82 (Int32.toNatClampNeg v2)), .ref 66] (N, am_ts T, I, L, am_rs r) Q))) from ?_)
    by_cases hc : (7 : Int32) ≤ v2
    · rw [if_pos hc] at h0 hp ⊢
      exact h0 rfl
    · rw [if_neg hc] at h0 hp ⊢
      rw [if_neg hp.1]
      replace hp := hp.2
      refine am_E.go ⟨fun v h9 => v = some (.int (f_211 (L 82 (Int32.toNatClampNeg v2)) I L)) ∧ h9 = (N, am_ts T, I, L, am_rs r), s_211 ⟨rfl, rfl⟩, ?_⟩
      intro v h9 hv
      obtain ⟨rfl, rfl⟩ := hv
      generalize he_q0 : f_211 (L 82 (Int32.toNatClampNeg v2)) I L = q0 at h0 hp ⊢
      refine am_E.run [4] 2000 (show (if q0 = 0 then (am_E S 219 (d + 1) 0 0 4 [.ref 66, .int v1, .int (v2 + 1)] [] (N, am_ts T, I, L, am_rs r) Q) else (am_E S 219 (d + 1) 0 0 4 [.ref 66, .int (v2 + 1), .int (v2 + 1)] [] (N, am_ts T, I, L, am_rs r) Q)) from ?_)
      by_cases hc : q0 = 0
      · rw [if_pos hc] at h0 hp ⊢
        exact ih hp h0
      · rw [if_neg hc] at h0 hp ⊢
        exact ih hp h0
/-- KeyKeepersModel.orderPartAt()I -/
def f_219 (I : Nat → Nat → Int32) (L : Nat → Nat → Int64) : Int32 :=
  let q1 := lp_219_4 am_fu (-1) 0 I L;
  q1.2.2.1
def p_219 (I : Nat → Nat → Int32) (L : Nat → Nat → Int64) : Prop :=
  lq_219_4 am_fu (-1) 0 I L ∧
  (let q1 := lp_219_4 am_fu (-1) 0 I L;
    True)
set_option maxRecDepth 100000 in
theorem s_219 {S : am_S} {d N : Nat} {T : Nat → Nat × Nat} {I : Nat → Nat → Int32} {L : Nat → Nat → Int64} {r : Nat → Nat → Option Nat} {Q : am_Q} (hp : p_219 I L) (hq : Q (some (.int (f_219 I L))) (N, am_ts T, I, L, am_rs r)) : am_E S 219 (d + 1) 0 0 0 [.ref 66, am_jk, am_jk] [] (N, am_ts T, I, L, am_rs r) Q := by
  unfold f_219 at hq
  unfold p_219 at hp
  try dsimp only at hq hp
  refine am_E.run [4] 2000 (show (am_E S 219 (d + 1) 0 0 4 [.ref 66, .int (-1), .int 0] [] (N, am_ts T, I, L, am_rs r) Q) from ?_)
  refine sl_219_4 am_fu hp.1 (fun hk => ?_)
  · replace hp := hp.2
    generalize he_q1 : lp_219_4 am_fu (-1) 0 I L = q1 at hq hp hk ⊢
    refine am_E.run [] 2000 (show (True ∧ Q (some (.int q1.2.2.1)) (N, am_ts T, I, L, am_rs r)) from ?_)
    exact ⟨trivial, hq⟩
def lp_220_4 : Nat → Int32 → Int32 → (Nat → Nat → Int32) → (Nat → Nat → Int64) → Nat × Int32 × Int32 × Int32
  | 0, v1, v2, I, L => (0, 0, v1, v2)
  | n + 1, v1, v2, I, L =>
    if (10 : Int32) ≤ v2 then
      (0, 0, v1, v2)
    else
      let q0 := f_211 (L 81 (Int32.toNatClampNeg v2)) I L;
      if q0 = 0 then
        lp_220_4 n v1 (v2 + 1) I L
      else
        lp_220_4 n (v2 + 1) (v2 + 1) I L
def lq_220_4 : Nat → Int32 → Int32 → (Nat → Nat → Int32) → (Nat → Nat → Int64) → Prop
  | 0, v1, v2, I, L => False
  | n + 1, v1, v2, I, L =>
    if (10 : Int32) ≤ v2 then
      True
    else
      ¬ (v2 < 0 ∨ 10 ≤ Int32.toNatClampNeg v2) ∧
      (let q0 := f_211 (L 81 (Int32.toNatClampNeg v2)) I L;
        if q0 = 0 then
          lq_220_4 n v1 (v2 + 1) I L
        else
          lq_220_4 n (v2 + 1) (v2 + 1) I L)
set_option maxRecDepth 100000 in
theorem sl_220_4 {S : am_S} {d N : Nat} {T : Nat → Nat × Nat} {r : Nat → Nat → Option Nat} {Q : am_Q} : ∀ (n : Nat) {v1 : Int32} {v2 : Int32} {I : Nat → Nat → Int32} {L : Nat → Nat → Int64} (hp : lq_220_4 n v1 v2 I L) (h0 : (lp_220_4 n v1 v2 I L).1 = 0 → am_E S 220 (d + 1) 0 0 37 [.ref 66, .int (lp_220_4 n v1 v2 I L).2.2.1, .int (lp_220_4 n v1 v2 I L).2.2.2] [] (N, am_ts T, I, L, am_rs r) Q), am_E S 220 (d + 1) 0 0 4 [.ref 66, .int v1, .int v2] [] (N, am_ts T, I, L, am_rs r) Q
  | 0, _, _, _, _, hp, _ => hp.elim
  | n + 1, v1, v2, I, L, hp, h0 => by
    have ih := @sl_220_4 S d N T r Q n
    unfold lp_220_4 at h0
    unfold lq_220_4 at hp
    try dsimp only at h0 hp
    refine am_E.run [17, 37] 2000 (show (if (10 : Int32) ≤ v2 then (am_E S 220 (d + 1) 0 0 37 [.ref 66, .int v1, .int v2] [] (N, am_ts T, I, L, am_rs r) Q) else (if v2 < 0 ∨ 10 ≤ Int32.toNatClampNeg v2 then False else (am_E S 220 (d + 1) 0 0 17 [.ref 66, .int v1, .int v2] [.long (L 81 (Int32.toNatClampNeg v2)), .ref 66] (N, am_ts T, I, L, am_rs r) Q))) from ?_)
    by_cases hc : (10 : Int32) ≤ v2
    · rw [if_pos hc] at h0 hp ⊢
      exact h0 rfl
    · rw [if_neg hc] at h0 hp ⊢
      rw [if_neg hp.1]
      replace hp := hp.2
      refine am_E.go ⟨fun v h9 => v = some (.int (f_211 (L 81 (Int32.toNatClampNeg v2)) I L)) ∧ h9 = (N, am_ts T, I, L, am_rs r), s_211 ⟨rfl, rfl⟩, ?_⟩
      intro v h9 hv
      obtain ⟨rfl, rfl⟩ := hv
      generalize he_q0 : f_211 (L 81 (Int32.toNatClampNeg v2)) I L = q0 at h0 hp ⊢
      refine am_E.run [4] 2000 (show (if q0 = 0 then (am_E S 220 (d + 1) 0 0 4 [.ref 66, .int v1, .int (v2 + 1)] [] (N, am_ts T, I, L, am_rs r) Q) else (am_E S 220 (d + 1) 0 0 4 [.ref 66, .int (v2 + 1), .int (v2 + 1)] [] (N, am_ts T, I, L, am_rs r) Q)) from ?_)
      by_cases hc : q0 = 0
      · rw [if_pos hc] at h0 hp ⊢
        exact ih hp h0
      · rw [if_neg hc] at h0 hp ⊢
        exact ih hp h0
/-- KeyKeepersModel.partAt()I -/
def f_220 (I : Nat → Nat → Int32) (L : Nat → Nat → Int64) : Int32 :=
  let q1 := lp_220_4 am_fu (-1) 0 I L;
  q1.2.2.1
def p_220 (I : Nat → Nat → Int32) (L : Nat → Nat → Int64) : Prop :=
  lq_220_4 am_fu (-1) 0 I L ∧
  (let q1 := lp_220_4 am_fu (-1) 0 I L;
    True)
set_option maxRecDepth 100000 in
theorem s_220 {S : am_S} {d N : Nat} {T : Nat → Nat × Nat} {I : Nat → Nat → Int32} {L : Nat → Nat → Int64} {r : Nat → Nat → Option Nat} {Q : am_Q} (hp : p_220 I L) (hq : Q (some (.int (f_220 I L))) (N, am_ts T, I, L, am_rs r)) : am_E S 220 (d + 1) 0 0 0 [.ref 66, am_jk, am_jk] [] (N, am_ts T, I, L, am_rs r) Q := by
  unfold f_220 at hq
  unfold p_220 at hp
  try dsimp only at hq hp
  refine am_E.run [4] 2000 (show (am_E S 220 (d + 1) 0 0 4 [.ref 66, .int (-1), .int 0] [] (N, am_ts T, I, L, am_rs r) Q) from ?_)
  refine sl_220_4 am_fu hp.1 (fun hk => ?_)
  · replace hp := hp.2
    generalize he_q1 : lp_220_4 am_fu (-1) 0 I L = q1 at hq hp hk ⊢
    refine am_E.run [] 2000 (show (True ∧ Q (some (.int q1.2.2.1)) (N, am_ts T, I, L, am_rs r)) from ?_)
    exact ⟨trivial, hq⟩
/-- KeyKeepersModel.emit(II)V -/
def f_222 (x0 : Int32) (x1 : Int32) (I : Nat → Nat → Int32) (L : Nat → Nat → Int64) : Int32 × (Nat → Nat → Int32) × (Nat → Nat → Int64) :=
  (0, (am_u (am_u (am_u I 77 (Int32.toNatClampNeg (I 66 23)) x0) 78 (Int32.toNatClampNeg (I 66 23)) x1) 66 23 ((I 66 23) + 1)), L)
def p_222 (x0 : Int32) (x1 : Int32) (I : Nat → Nat → Int32) (L : Nat → Nat → Int64) : Prop :=
  ¬ ((I 66 23) < 0 ∨ 400 ≤ Int32.toNatClampNeg (I 66 23)) ∧
  ¬ ((I 66 23) < 0 ∨ 400 ≤ Int32.toNatClampNeg (I 66 23)) ∧
  True
set_option maxRecDepth 100000 in
theorem s_222 {S : am_S} {d N : Nat} {T : Nat → Nat × Nat} {I : Nat → Nat → Int32} {L : Nat → Nat → Int64} {r : Nat → Nat → Option Nat} {Q : am_Q} {x0 : Int32} {x1 : Int32} (hp : p_222 x0 x1 I L) (hq : Q (none) (N, am_ts T, (f_222 x0 x1 I L).2.1, (f_222 x0 x1 I L).2.2, am_rs r)) : am_E S 222 (d + 0) 0 0 0 [.ref 66, .int x0, .int x1] [] (N, am_ts T, I, L, am_rs r) Q := by
  unfold f_222 at hq
  unfold p_222 at hp
  try dsimp only at hq hp
  refine am_E.run [] 2000 (show (if (I 66 23) < 0 ∨ 400 ≤ Int32.toNatClampNeg (I 66 23) then False else (if (I 66 23) < 0 ∨ 400 ≤ Int32.toNatClampNeg (I 66 23) then False else (True ∧ Q (none) (N, am_ts T, (am_u (am_u (am_u I 77 (Int32.toNatClampNeg (I 66 23)) x0) 78 (Int32.toNatClampNeg (I 66 23)) x1) 66 23 ((I 66 23) + 1)), L, am_rs r)))) from ?_)
  rw [if_neg hp.1]
  replace hp := hp.2
  rw [if_neg hp.1]
  replace hp := hp.2
  exact ⟨trivial, hq⟩
/-- KeyKeepersModel.binds(I)I -/
def f_225 (x0 : Int32) : Int32 :=
  if x0 < 31 then
    if x0 = 30 then
      1
    else
      if x0 = 29 then
        2
      else
        if x0 = 28 then
          3
        else
          if x0 < 25 then
            if x0 < 22 then
              5
            else
              6
          else
            4
  else
    0
set_option maxRecDepth 100000 in
theorem s_225 {S : am_S} {d N : Nat} {T : Nat → Nat × Nat} {I : Nat → Nat → Int32} {L : Nat → Nat → Int64} {r : Nat → Nat → Option Nat} {Q : am_Q} {x0 : Int32} (hq : Q (some (.int (f_225 x0))) (N, am_ts T, I, L, am_rs r)) : am_E S 225 (d + 0) 0 0 0 [.int x0] [] (N, am_ts T, I, L, am_rs r) Q := by
  unfold f_225 at hq
  try dsimp only at hq
  refine am_E.run [] 2000 (show (if x0 < 31 then (if x0 = 30 then (True ∧ Q (some (.int 1)) (N, am_ts T, I, L, am_rs r)) else (if x0 = 29 then (True ∧ Q (some (.int 2)) (N, am_ts T, I, L, am_rs r)) else (if x0 = 28 then (True ∧ Q (some (.int 3)) (N, am_ts T, I, L, am_rs r)) else (if x0 < 25 then (if x0 < 22 then (True ∧ Q (some (.int 5)) (N, am_ts T, I, L, am_rs r)) else (True ∧ Q (some (.int 6)) (N, am_ts T, I, L, am_rs r))) else (True ∧ Q (some (.int 4)) (N, am_ts T, I, L, am_rs r)))))) else (True ∧ Q (some (.int 0)) (N, am_ts T, I, L, am_rs r))) from ?_)
  by_cases hc : x0 < 31
  · rw [if_pos hc] at hq ⊢
    by_cases hc : x0 = 30
    · rw [if_pos hc] at hq ⊢
      exact ⟨trivial, hq⟩
    · rw [if_neg hc] at hq ⊢
      by_cases hc : x0 = 29
      · rw [if_pos hc] at hq ⊢
        exact ⟨trivial, hq⟩
      · rw [if_neg hc] at hq ⊢
        by_cases hc : x0 = 28
        · rw [if_pos hc] at hq ⊢
          exact ⟨trivial, hq⟩
        · rw [if_neg hc] at hq ⊢
          by_cases hc : x0 < 25
          · rw [if_pos hc] at hq ⊢
            by_cases hc : x0 < 22
            · rw [if_pos hc] at hq ⊢
              exact ⟨trivial, hq⟩
            · rw [if_neg hc] at hq ⊢
              exact ⟨trivial, hq⟩
          · rw [if_neg hc] at hq ⊢
            exact ⟨trivial, hq⟩
  · rw [if_neg hc] at hq ⊢
    exact ⟨trivial, hq⟩
def lp_226_0 : Nat → Int32 → (Nat → Nat → Int32) → (Nat → Nat → Int64) → Nat × Int32 × (Nat → Nat → Int32) × (Nat → Nat → Int64)
  | 0, v1, I, L => (0, 0, I, L)
  | n + 1, v1, I, L =>
    if (I 66 29) ≤ 0 then
      (0, 0, I, L)
    else
      let q0 := f_225 (I 79 (Int32.toNatClampNeg ((I 66 29) - 1)));
      if q0 < v1 then
        (0, 0, I, L)
      else
        if (I 79 (Int32.toNatClampNeg ((I 66 29) - 1))) = 29 then
          lp_226_0 n v1 (am_u (am_u I 66 29 ((I 66 29) - 1)) 78 (Int32.toNatClampNeg (I 80 (Int32.toNatClampNeg ((I 66 29) - 1)))) (I 66 23)) L
        else
          if (I 79 (Int32.toNatClampNeg ((I 66 29) - 1))) = 30 then
            lp_226_0 n v1 (am_u (am_u I 66 29 ((I 66 29) - 1)) 78 (Int32.toNatClampNeg (I 80 (Int32.toNatClampNeg ((I 66 29) - 1)))) (I 66 23)) L
          else
            let q1 := f_222 (I 79 (Int32.toNatClampNeg ((I 66 29) - 1))) 0 (am_u I 66 29 ((I 66 29) - 1)) L;
            lp_226_0 n v1 q1.2.1 q1.2.2
def lq_226_0 : Nat → Int32 → (Nat → Nat → Int32) → (Nat → Nat → Int64) → Prop
  | 0, v1, I, L => False
  | n + 1, v1, I, L =>
    if (I 66 29) ≤ 0 then
      True
    else
      ¬ (((I 66 29) - 1) < 0 ∨ 400 ≤ Int32.toNatClampNeg ((I 66 29) - 1)) ∧
      (let q0 := f_225 (I 79 (Int32.toNatClampNeg ((I 66 29) - 1)));
        if q0 < v1 then
          True
        else
          ¬ (((I 66 29) - 1) < 0 ∨ 400 ≤ Int32.toNatClampNeg ((I 66 29) - 1)) ∧
          if (I 79 (Int32.toNatClampNeg ((I 66 29) - 1))) = 29 then
            ¬ (((I 66 29) - 1) < 0 ∨ 400 ≤ Int32.toNatClampNeg ((I 66 29) - 1)) ∧
            ¬ ((I 80 (Int32.toNatClampNeg ((I 66 29) - 1))) < 0 ∨ 400 ≤ Int32.toNatClampNeg (I 80 (Int32.toNatClampNeg ((I 66 29) - 1)))) ∧
            lq_226_0 n v1 (am_u (am_u I 66 29 ((I 66 29) - 1)) 78 (Int32.toNatClampNeg (I 80 (Int32.toNatClampNeg ((I 66 29) - 1)))) (I 66 23)) L
          else
            ¬ (((I 66 29) - 1) < 0 ∨ 400 ≤ Int32.toNatClampNeg ((I 66 29) - 1)) ∧
            if (I 79 (Int32.toNatClampNeg ((I 66 29) - 1))) = 30 then
              ¬ (((I 66 29) - 1) < 0 ∨ 400 ≤ Int32.toNatClampNeg ((I 66 29) - 1)) ∧
              ¬ ((I 80 (Int32.toNatClampNeg ((I 66 29) - 1))) < 0 ∨ 400 ≤ Int32.toNatClampNeg (I 80 (Int32.toNatClampNeg ((I 66 29) - 1)))) ∧
              lq_226_0 n v1 (am_u (am_u I 66 29 ((I 66 29) - 1)) 78 (Int32.toNatClampNeg (I 80 (Int32.toNatClampNeg ((I 66 29) - 1)))) (I 66 23)) L
            else
              ¬ (((I 66 29) - 1) < 0 ∨ 400 ≤ Int32.toNatClampNeg ((I 66 29) - 1)) ∧
              p_222 (I 79 (Int32.toNatClampNeg ((I 66 29) - 1))) 0 (am_u I 66 29 ((I 66 29) - 1)) L ∧
              (let q1 := f_222 (I 79 (Int32.toNatClampNeg ((I 66 29) - 1))) 0 (am_u I 66 29 ((I 66 29) - 1)) L;
                lq_226_0 n v1 q1.2.1 q1.2.2))
set_option maxRecDepth 100000 in
theorem sl_226_0 {S : am_S} {d N : Nat} {T : Nat → Nat × Nat} {r : Nat → Nat → Option Nat} {Q : am_Q} : ∀ (n : Nat) {v1 : Int32} {I : Nat → Nat → Int32} {L : Nat → Nat → Int64} (hp : lq_226_0 n v1 I L) (h0 : (lp_226_0 n v1 I L).1 = 0 → am_E S 226 (d + 1) 0 0 101 [.ref 66, .int v1] [] (N, am_ts T, (lp_226_0 n v1 I L).2.2.1, (lp_226_0 n v1 I L).2.2.2, am_rs r) Q), am_E S 226 (d + 1) 0 0 0 [.ref 66, .int v1] [] (N, am_ts T, I, L, am_rs r) Q
  | 0, _, _, _, hp, _ => hp.elim
  | n + 1, v1, I, L, hp, h0 => by
    have ih := @sl_226_0 S d N T r Q n
    unfold lp_226_0 at h0
    unfold lq_226_0 at hp
    try dsimp only at h0 hp
    refine am_E.run [18, 101] 2000 (show (if (I 66 29) ≤ 0 then (am_E S 226 (d + 1) 0 0 101 [.ref 66, .int v1] [] (N, am_ts T, I, L, am_rs r) Q) else (if ((I 66 29) - 1) < 0 ∨ 400 ≤ Int32.toNatClampNeg ((I 66 29) - 1) then False else (am_E S 226 (d + 1) 0 0 18 [.ref 66, .int v1] [.int (I 79 (Int32.toNatClampNeg ((I 66 29) - 1)))] (N, am_ts T, I, L, am_rs r) Q))) from ?_)
    by_cases hc : (I 66 29) ≤ 0
    · rw [if_pos hc] at h0 hp ⊢
      exact h0 rfl
    · rw [if_neg hc] at h0 hp ⊢
      rw [if_neg hp.1]
      replace hp := hp.2
      refine am_E.go ⟨fun v h9 => v = some (.int (f_225 (I 79 (Int32.toNatClampNeg ((I 66 29) - 1))))) ∧ h9 = (N, am_ts T, I, L, am_rs r), s_225 ⟨rfl, rfl⟩, ?_⟩
      intro v h9 hv
      obtain ⟨rfl, rfl⟩ := hv
      generalize he_q0 : f_225 (I 79 (Int32.toNatClampNeg ((I 66 29) - 1))) = q0 at h0 hp ⊢
      refine am_E.run [0, 95, 101] 2000 (show (if q0 < v1 then (am_E S 226 (d + 1) 0 0 101 [.ref 66, .int v1] [] (N, am_ts T, I, L, am_rs r) Q) else (if ((I 66 29) - 1) < 0 ∨ 400 ≤ Int32.toNatClampNeg ((I 66 29) - 1) then False else (if (I 79 (Int32.toNatClampNeg ((I 66 29) - 1))) = 29 then (if ((I 66 29) - 1) < 0 ∨ 400 ≤ Int32.toNatClampNeg ((I 66 29) - 1) then False else (if (I 80 (Int32.toNatClampNeg ((I 66 29) - 1))) < 0 ∨ 400 ≤ Int32.toNatClampNeg (I 80 (Int32.toNatClampNeg ((I 66 29) - 1))) then False else (am_E S 226 (d + 1) 0 0 0 [.ref 66, .int v1] [] (N, am_ts T, (am_u (am_u I 66 29 ((I 66 29) - 1)) 78 (Int32.toNatClampNeg (I 80 (Int32.toNatClampNeg ((I 66 29) - 1)))) (I 66 23)), L, am_rs r) Q))) else (if ((I 66 29) - 1) < 0 ∨ 400 ≤ Int32.toNatClampNeg ((I 66 29) - 1) then False else (if (I 79 (Int32.toNatClampNeg ((I 66 29) - 1))) = 30 then (if ((I 66 29) - 1) < 0 ∨ 400 ≤ Int32.toNatClampNeg ((I 66 29) - 1) then False else (if (I 80 (Int32.toNatClampNeg ((I 66 29) - 1))) < 0 ∨ 400 ≤ Int32.toNatClampNeg (I 80 (Int32.toNatClampNeg ((I 66 29) - 1))) then False else (am_E S 226 (d + 1) 0 0 0 [.ref 66, .int v1] [] (N, am_ts T, (am_u (am_u I 66 29 ((I 66 29) - 1)) 78 (Int32.toNatClampNeg (I 80 (Int32.toNatClampNeg ((I 66 29) - 1)))) (I 66 23)), L, am_rs r) Q))) else (if ((I 66 29) - 1) < 0 ∨ 400 ≤ Int32.toNatClampNeg ((I 66 29) - 1) then False else (am_E S 226 (d + 1) 0 0 95 [.ref 66, .int v1] [.int 0, .int (I 79 (Int32.toNatClampNeg ((I 66 29) - 1))), .ref 66] (N, am_ts T, (am_u I 66 29 ((I 66 29) - 1)), L, am_rs r) Q))))))) from ?_)
      by_cases hc : q0 < v1
      · rw [if_pos hc] at h0 hp ⊢
        exact h0 rfl
      · rw [if_neg hc] at h0 hp ⊢
        rw [if_neg hp.1]
        replace hp := hp.2
        by_cases hc : (I 79 (Int32.toNatClampNeg ((I 66 29) - 1))) = 29
        · rw [if_pos hc] at h0 hp ⊢
          rw [if_neg hp.1]
          replace hp := hp.2
          rw [if_neg hp.1]
          replace hp := hp.2
          exact ih hp h0
        · rw [if_neg hc] at h0 hp ⊢
          rw [if_neg hp.1]
          replace hp := hp.2
          by_cases hc : (I 79 (Int32.toNatClampNeg ((I 66 29) - 1))) = 30
          · rw [if_pos hc] at h0 hp ⊢
            rw [if_neg hp.1]
            replace hp := hp.2
            rw [if_neg hp.1]
            replace hp := hp.2
            exact ih hp h0
          · rw [if_neg hc] at h0 hp ⊢
            rw [if_neg hp.1]
            replace hp := hp.2
            refine am_E.go ⟨fun v h9 => v = none ∧ h9 = (N, am_ts T, (f_222 (I 79 (Int32.toNatClampNeg ((I 66 29) - 1))) 0 (am_u I 66 29 ((I 66 29) - 1)) L).2.1, (f_222 (I 79 (Int32.toNatClampNeg ((I 66 29) - 1))) 0 (am_u I 66 29 ((I 66 29) - 1)) L).2.2, am_rs r), s_222 hp.1 ⟨rfl, rfl⟩, ?_⟩
            replace hp := hp.2
            intro v h9 hv
            obtain ⟨rfl, rfl⟩ := hv
            generalize he_q1 : f_222 (I 79 (Int32.toNatClampNeg ((I 66 29) - 1))) 0 (am_u I 66 29 ((I 66 29) - 1)) L = q1 at h0 hp ⊢
            refine am_E.run [0] 2000 (show (am_E S 226 (d + 1) 0 0 0 [.ref 66, .int v1] [] (N, am_ts T, q1.2.1, q1.2.2, am_rs r) Q) from ?_)
            exact ih hp h0
/-- KeyKeepersModel.settle(I)V -/
def f_226 (x0 : Int32) (I : Nat → Nat → Int32) (L : Nat → Nat → Int64) : Int32 × (Nat → Nat → Int32) × (Nat → Nat → Int64) :=
  let q2 := lp_226_0 am_fu x0 I L;
  (0, q2.2.2.1, q2.2.2.2)
def p_226 (x0 : Int32) (I : Nat → Nat → Int32) (L : Nat → Nat → Int64) : Prop :=
  lq_226_0 am_fu x0 I L ∧
  (let q2 := lp_226_0 am_fu x0 I L;
    True)
set_option maxRecDepth 100000 in
theorem s_226 {S : am_S} {d N : Nat} {T : Nat → Nat × Nat} {I : Nat → Nat → Int32} {L : Nat → Nat → Int64} {r : Nat → Nat → Option Nat} {Q : am_Q} {x0 : Int32} (hp : p_226 x0 I L) (hq : Q (none) (N, am_ts T, (f_226 x0 I L).2.1, (f_226 x0 I L).2.2, am_rs r)) : am_E S 226 (d + 1) 0 0 0 [.ref 66, .int x0] [] (N, am_ts T, I, L, am_rs r) Q := by
  unfold f_226 at hq
  unfold p_226 at hp
  try dsimp only at hq hp
  show (am_E S 226 (d + 1) 0 0 0 [.ref 66, .int x0] [] (N, am_ts T, I, L, am_rs r) Q)
  refine sl_226_0 am_fu hp.1 (fun hk => ?_)
  · replace hp := hp.2
    generalize he_q2 : lp_226_0 am_fu x0 I L = q2 at hq hp hk ⊢
    refine am_E.run [] 2000 (show (True ∧ Q (none) (N, am_ts T, q2.2.2.1, q2.2.2.2, am_rs r)) from ?_)
    exact ⟨trivial, hq⟩
def lp_227_4 : Nat → Int32 → Int32 → (Nat → Nat → Int32) → (Nat → Nat → Int64) → Nat × Int32 × Int32 × Int32
  | 0, v1, v2, I, L => (0, 0, v1, v2)
  | n + 1, v1, v2, I, L =>
    if (I 66 29) ≤ v2 then
      (0, 0, v1, v2)
    else
      if (I 79 (Int32.toNatClampNeg v2)) < 31 then
        lp_227_4 n v1 (v2 + 1) I L
      else
        lp_227_4 n (I 79 (Int32.toNatClampNeg v2)) (v2 + 1) I L
def lq_227_4 : Nat → Int32 → Int32 → (Nat → Nat → Int32) → (Nat → Nat → Int64) → Prop
  | 0, v1, v2, I, L => False
  | n + 1, v1, v2, I, L =>
    if (I 66 29) ≤ v2 then
      True
    else
      ¬ (v2 < 0 ∨ 400 ≤ Int32.toNatClampNeg v2) ∧
      if (I 79 (Int32.toNatClampNeg v2)) < 31 then
        lq_227_4 n v1 (v2 + 1) I L
      else
        ¬ (v2 < 0 ∨ 400 ≤ Int32.toNatClampNeg v2) ∧
        lq_227_4 n (I 79 (Int32.toNatClampNeg v2)) (v2 + 1) I L
set_option maxRecDepth 100000 in
theorem sl_227_4 {S : am_S} {d N : Nat} {T : Nat → Nat × Nat} {r : Nat → Nat → Option Nat} {Q : am_Q} : ∀ (n : Nat) {v1 : Int32} {v2 : Int32} {I : Nat → Nat → Int32} {L : Nat → Nat → Int64} (hp : lq_227_4 n v1 v2 I L) (h0 : (lp_227_4 n v1 v2 I L).1 = 0 → am_E S 227 (d + 0) 0 0 40 [.ref 66, .int (lp_227_4 n v1 v2 I L).2.2.1, .int (lp_227_4 n v1 v2 I L).2.2.2] [] (N, am_ts T, I, L, am_rs r) Q), am_E S 227 (d + 0) 0 0 4 [.ref 66, .int v1, .int v2] [] (N, am_ts T, I, L, am_rs r) Q
  | 0, _, _, _, _, hp, _ => hp.elim
  | n + 1, v1, v2, I, L, hp, h0 => by
    have ih := @sl_227_4 S d N T r Q n
    unfold lp_227_4 at h0
    unfold lq_227_4 at hp
    try dsimp only at h0 hp
    refine am_E.run [4, 40] 2000 (show (if (I 66 29) ≤ v2 then (am_E S 227 (d + 0) 0 0 40 [.ref 66, .int v1, .int v2] [] (N, am_ts T, I, L, am_rs r) Q) else (if v2 < 0 ∨ 400 ≤ Int32.toNatClampNeg v2 then False else (if (I 79 (Int32.toNatClampNeg v2)) < 31 then (am_E S 227 (d + 0) 0 0 4 [.ref 66, .int v1, .int (v2 + 1)] [] (N, am_ts T, I, L, am_rs r) Q) else (if v2 < 0 ∨ 400 ≤ Int32.toNatClampNeg v2 then False else (am_E S 227 (d + 0) 0 0 4 [.ref 66, .int (I 79 (Int32.toNatClampNeg v2)), .int (v2 + 1)] [] (N, am_ts T, I, L, am_rs r) Q))))) from ?_)
    by_cases hc : (I 66 29) ≤ v2
    · rw [if_pos hc] at h0 hp ⊢
      exact h0 rfl
    · rw [if_neg hc] at h0 hp ⊢
      rw [if_neg hp.1]
      replace hp := hp.2
      by_cases hc : (I 79 (Int32.toNatClampNeg v2)) < 31
      · rw [if_pos hc] at h0 hp ⊢
        exact ih hp h0
      · rw [if_neg hc] at h0 hp ⊢
        rw [if_neg hp.1]
        replace hp := hp.2
        exact ih hp h0
/-- KeyKeepersModel.inner()I -/
def f_227 (I : Nat → Nat → Int32) (L : Nat → Nat → Int64) : Int32 :=
  let q0 := lp_227_4 am_fu (-1) 0 I L;
  q0.2.2.1
def p_227 (I : Nat → Nat → Int32) (L : Nat → Nat → Int64) : Prop :=
  lq_227_4 am_fu (-1) 0 I L ∧
  (let q0 := lp_227_4 am_fu (-1) 0 I L;
    True)
set_option maxRecDepth 100000 in
theorem s_227 {S : am_S} {d N : Nat} {T : Nat → Nat × Nat} {I : Nat → Nat → Int32} {L : Nat → Nat → Int64} {r : Nat → Nat → Option Nat} {Q : am_Q} (hp : p_227 I L) (hq : Q (some (.int (f_227 I L))) (N, am_ts T, I, L, am_rs r)) : am_E S 227 (d + 0) 0 0 0 [.ref 66, am_jk, am_jk] [] (N, am_ts T, I, L, am_rs r) Q := by
  unfold f_227 at hq
  unfold p_227 at hp
  try dsimp only at hq hp
  refine am_E.run [4] 2000 (show (am_E S 227 (d + 0) 0 0 4 [.ref 66, .int (-1), .int 0] [] (N, am_ts T, I, L, am_rs r) Q) from ?_)
  refine sl_227_4 am_fu hp.1 (fun hk => ?_)
  · replace hp := hp.2
    generalize he_q0 : lp_227_4 am_fu (-1) 0 I L = q0 at hq hp hk ⊢
    refine am_E.run [] 2000 (show (True ∧ Q (some (.int q0.2.2.1)) (N, am_ts T, I, L, am_rs r)) from ?_)
    exact ⟨trivial, hq⟩
def lp_228_7 : Nat → Int32 → (Nat → Nat → Int32) → (Nat → Nat → Int64) → Nat × Int32 × Int32
  | 0, v1, I, L => (0, 0, v1)
  | n + 1, v1, I, L =>
    if v1 < 0 then
      (0, 0, v1)
    else
      let q0 := f_182 (Int32.toInt64 (I 79 (Int32.toNatClampNeg v1))) 20 24;
      if q0 = 0 then
        (0, 0, v1)
      else
        lp_228_7 n (v1 + (-1)) I L
def lq_228_7 : Nat → Int32 → (Nat → Nat → Int32) → (Nat → Nat → Int64) → Prop
  | 0, v1, I, L => False
  | n + 1, v1, I, L =>
    if v1 < 0 then
      True
    else
      ¬ (v1 < 0 ∨ 400 ≤ Int32.toNatClampNeg v1) ∧
      (let q0 := f_182 (Int32.toInt64 (I 79 (Int32.toNatClampNeg v1))) 20 24;
        if q0 = 0 then
          True
        else
          lq_228_7 n (v1 + (-1)) I L)
set_option maxRecDepth 100000 in
theorem sl_228_7 {S : am_S} {d N : Nat} {T : Nat → Nat × Nat} {r : Nat → Nat → Option Nat} {Q : am_Q} : ∀ (n : Nat) {v1 : Int32} {I : Nat → Nat → Int32} {L : Nat → Nat → Int64} (hp : lq_228_7 n v1 I L) (h0 : (lp_228_7 n v1 I L).1 = 0 → am_E S 228 (d + 1) 0 0 36 [.ref 66, .int (lp_228_7 n v1 I L).2.2] [] (N, am_ts T, I, L, am_rs r) Q), am_E S 228 (d + 1) 0 0 7 [.ref 66, .int v1] [] (N, am_ts T, I, L, am_rs r) Q
  | 0, _, _, _, hp, _ => hp.elim
  | n + 1, v1, I, L, hp, h0 => by
    have ih := @sl_228_7 S d N T r Q n
    unfold lp_228_7 at h0
    unfold lq_228_7 at hp
    try dsimp only at h0 hp
    refine am_E.run [24, 36] 2000 (show (if v1 < 0 then (am_E S 228 (d + 1) 0 0 36 [.ref 66, .int v1] [] (N, am_ts T, I, L, am_rs r) Q) else (if v1 < 0 ∨ 400 ≤ Int32.toNatClampNeg v1 then False else (am_E S 228 (d + 1) 0 0 24 [.ref 66, .int v1] [.long 24, .long 20, .long (Int32.toInt64 (I 79 (Int32.toNatClampNeg v1)))] (N, am_ts T, I, L, am_rs r) Q))) from ?_)
    by_cases hc : v1 < 0
    · rw [if_pos hc] at h0 hp ⊢
      exact h0 rfl
    · rw [if_neg hc] at h0 hp ⊢
      rw [if_neg hp.1]
      replace hp := hp.2
      refine am_E.go ⟨fun v h9 => v = some (.int (f_182 (Int32.toInt64 (I 79 (Int32.toNatClampNeg v1))) 20 24)) ∧ h9 = (N, am_ts T, I, L, am_rs r), s_182 ⟨rfl, rfl⟩, ?_⟩
      intro v h9 hv
      obtain ⟨rfl, rfl⟩ := hv
      generalize he_q0 : f_182 (Int32.toInt64 (I 79 (Int32.toNatClampNeg v1))) 20 24 = q0 at h0 hp ⊢
      refine am_E.run [7, 36] 2000 (show (if q0 = 0 then (am_E S 228 (d + 1) 0 0 36 [.ref 66, .int v1] [] (N, am_ts T, I, L, am_rs r) Q) else (am_E S 228 (d + 1) 0 0 7 [.ref 66, .int (v1 + (-1))] [] (N, am_ts T, I, L, am_rs r) Q)) from ?_)
      by_cases hc : q0 = 0
      · rw [if_pos hc] at h0 hp ⊢
        exact h0 rfl
      · rw [if_neg hc] at h0 hp ⊢
        exact ih hp h0
/-- KeyKeepersModel.isCompared()Z -/
def f_228 (I : Nat → Nat → Int32) (L : Nat → Nat → Int64) : Int32 :=
  let q1 := lp_228_7 am_fu ((I 66 29) - 1) I L;
  if q1.2.2 < 0 then
    0
  else
    let q2 := f_182 (Int32.toInt64 (I 79 (Int32.toNatClampNeg q1.2.2))) 25 27;
    if q2 = 0 then
      0
    else
      1
def p_228 (I : Nat → Nat → Int32) (L : Nat → Nat → Int64) : Prop :=
  lq_228_7 am_fu ((I 66 29) - 1) I L ∧
  (let q1 := lp_228_7 am_fu ((I 66 29) - 1) I L;
    if q1.2.2 < 0 then
      True
    else
      ¬ (q1.2.2 < 0 ∨ 400 ≤ Int32.toNatClampNeg q1.2.2) ∧
      (let q2 := f_182 (Int32.toInt64 (I 79 (Int32.toNatClampNeg q1.2.2))) 25 27;
        if q2 = 0 then
          True
        else
          True))
set_option maxRecDepth 100000 in
theorem s_228 {S : am_S} {d N : Nat} {T : Nat → Nat × Nat} {I : Nat → Nat → Int32} {L : Nat → Nat → Int64} {r : Nat → Nat → Option Nat} {Q : am_Q} (hp : p_228 I L) (hq : Q (some (.int (f_228 I L))) (N, am_ts T, I, L, am_rs r)) : am_E S 228 (d + 1) 0 0 0 [.ref 66, am_jk] [] (N, am_ts T, I, L, am_rs r) Q := by
  unfold f_228 at hq
  unfold p_228 at hp
  try dsimp only at hq hp
  refine am_E.run [7] 2000 (show (am_E S 228 (d + 1) 0 0 7 [.ref 66, .int ((I 66 29) - 1)] [] (N, am_ts T, I, L, am_rs r) Q) from ?_)
  refine sl_228_7 am_fu hp.1 (fun hk => ?_)
  · replace hp := hp.2
    generalize he_q1 : lp_228_7 am_fu ((I 66 29) - 1) I L = q1 at hq hp hk ⊢
    refine am_E.run [53] 2000 (show (if q1.2.2 < 0 then (((0 : Int32) = 0 ∨ (0 : Int32) = 1) ∧ Q (some (.int 0)) (N, am_ts T, I, L, am_rs r)) else (if q1.2.2 < 0 ∨ 400 ≤ Int32.toNatClampNeg q1.2.2 then False else (am_E S 228 (d + 1) 0 0 53 [.ref 66, .int q1.2.2] [.long 27, .long 25, .long (Int32.toInt64 (I 79 (Int32.toNatClampNeg q1.2.2)))] (N, am_ts T, I, L, am_rs r) Q))) from ?_)
    by_cases hc : q1.2.2 < 0
    · rw [if_pos hc] at hq hp ⊢
      exact ⟨Or.inl rfl, hq⟩
    · rw [if_neg hc] at hq hp ⊢
      rw [if_neg hp.1]
      replace hp := hp.2
      refine am_E.go ⟨fun v h9 => v = some (.int (f_182 (Int32.toInt64 (I 79 (Int32.toNatClampNeg q1.2.2))) 25 27)) ∧ h9 = (N, am_ts T, I, L, am_rs r), s_182 ⟨rfl, rfl⟩, ?_⟩
      intro v h9 hv
      obtain ⟨rfl, rfl⟩ := hv
      generalize he_q2 : f_182 (Int32.toInt64 (I 79 (Int32.toNatClampNeg q1.2.2))) 25 27 = q2 at hq hp ⊢
      refine am_E.run [] 2000 (show (if q2 = 0 then (((0 : Int32) = 0 ∨ (0 : Int32) = 1) ∧ Q (some (.int 0)) (N, am_ts T, I, L, am_rs r)) else (((1 : Int32) = 0 ∨ (1 : Int32) = 1) ∧ Q (some (.int 1)) (N, am_ts T, I, L, am_rs r))) from ?_)
      by_cases hc : q2 = 0
      · rw [if_pos hc] at hq hp ⊢
        exact ⟨Or.inl rfl, hq⟩
      · rw [if_neg hc] at hq hp ⊢
        exact ⟨Or.inr rfl, hq⟩
/-- KeyKeepersModel.isLaw(I)Z -/
def f_232 (x0 : Int32) (I : Nat → Nat → Int32) : Int32 :=
  if x0 = (-1) then
    1
  else
    let q0 := f_182 (Int32.toInt64 x0) 0 ((Int32.toInt64 (I 68 3)) - 1);
    if q0 = 0 then
      0
    else
      1
set_option maxRecDepth 100000 in
theorem s_232 {S : am_S} {d N : Nat} {T : Nat → Nat × Nat} {I : Nat → Nat → Int32} {L : Nat → Nat → Int64} {r : Nat → Nat → Option Nat} {Q : am_Q} {x0 : Int32} (hq : Q (some (.int (f_232 x0 I))) (N, am_ts T, I, L, am_rs r)) : am_E S 232 (d + 1) 0 0 0 [.ref 66, .int x0] [] (N, am_ts T, I, L, am_rs r) Q := by
  unfold f_232 at hq
  try dsimp only at hq
  refine am_E.run [17] 2000 (show (if x0 = (-1) then (((1 : Int32) = 0 ∨ (1 : Int32) = 1) ∧ Q (some (.int 1)) (N, am_ts T, I, L, am_rs r)) else (am_E S 232 (d + 1) 0 0 17 [.ref 66, .int x0] [.long ((Int32.toInt64 (I 68 3)) - 1), .long 0, .long (Int32.toInt64 x0)] (N, am_ts T, I, L, am_rs r) Q)) from ?_)
  by_cases hc : x0 = (-1)
  · rw [if_pos hc] at hq ⊢
    exact ⟨Or.inr rfl, hq⟩
  · rw [if_neg hc] at hq ⊢
    refine am_E.go ⟨fun v h9 => v = some (.int (f_182 (Int32.toInt64 x0) 0 ((Int32.toInt64 (I 68 3)) - 1))) ∧ h9 = (N, am_ts T, I, L, am_rs r), s_182 ⟨rfl, rfl⟩, ?_⟩
    intro v h9 hv
    obtain ⟨rfl, rfl⟩ := hv
    generalize he_q0 : f_182 (Int32.toInt64 x0) 0 ((Int32.toInt64 (I 68 3)) - 1) = q0 at hq ⊢
    refine am_E.run [] 2000 (show (if q0 = 0 then (((0 : Int32) = 0 ∨ (0 : Int32) = 1) ∧ Q (some (.int 0)) (N, am_ts T, I, L, am_rs r)) else (((1 : Int32) = 0 ∨ (1 : Int32) = 1) ∧ Q (some (.int 1)) (N, am_ts T, I, L, am_rs r))) from ?_)
    by_cases hc : q0 = 0
    · rw [if_pos hc] at hq ⊢
      exact ⟨Or.inl rfl, hq⟩
    · rw [if_neg hc] at hq ⊢
      exact ⟨Or.inr rfl, hq⟩
/-- KeyKeepersModel.term(I)I -/
def f_237 (x0 : Int32) (I : Nat → Nat → Int32) : Int32 :=
  (I 68 (Int32.toNatClampNeg (5 + x0)))
def p_237 (x0 : Int32) (I : Nat → Nat → Int32) : Prop :=
  ¬ ((5 + x0) < 0 ∨ 5510 ≤ Int32.toNatClampNeg (5 + x0)) ∧
  True
set_option maxRecDepth 100000 in
theorem s_237 {S : am_S} {d N : Nat} {T : Nat → Nat × Nat} {I : Nat → Nat → Int32} {L : Nat → Nat → Int64} {r : Nat → Nat → Option Nat} {Q : am_Q} {x0 : Int32} (hp : p_237 x0 I) (hq : Q (some (.int (f_237 x0 I))) (N, am_ts T, I, L, am_rs r)) : am_E S 237 (d + 0) 0 0 0 [.ref 66, .int x0] [] (N, am_ts T, I, L, am_rs r) Q := by
  unfold f_237 at hq
  unfold p_237 at hp
  try dsimp only at hq hp
  refine am_E.run [] 2000 (show (if (5 + x0) < 0 ∨ 5510 ≤ Int32.toNatClampNeg (5 + x0) then False else (True ∧ Q (some (.int (I 68 (Int32.toNatClampNeg (5 + x0))))) (N, am_ts T, I, L, am_rs r))) from ?_)
  rw [if_neg hp.1]
  replace hp := hp.2
  exact ⟨trivial, hq⟩
/-- KeyKeepersModel.within(JII)I -/
def f_241 (x0 : Int64) (x1 : Int32) (x2 : Int32) : Int32 :=
  if (0 : Int32) ≤ (lg_cmp x0 (Int32.toInt64 x1)) then
    if (lg_cmp x0 (Int32.toInt64 x2)) ≤ 0 then
      (Int64.toInt32 x0)
    else
      x2
  else
    x1
set_option maxRecDepth 100000 in
theorem s_241 {S : am_S} {d N : Nat} {T : Nat → Nat × Nat} {I : Nat → Nat → Int32} {L : Nat → Nat → Int64} {r : Nat → Nat → Option Nat} {Q : am_Q} {x0 : Int64} {x1 : Int32} {x2 : Int32} (hq : Q (some (.int (f_241 x0 x1 x2))) (N, am_ts T, I, L, am_rs r)) : am_E S 241 (d + 0) 0 0 0 [.long x0, am_jk, .int x1, .int x2] [] (N, am_ts T, I, L, am_rs r) Q := by
  unfold f_241 at hq
  try dsimp only at hq
  refine am_E.run [] 2000 (show (if (0 : Int32) ≤ (lg_cmp x0 (Int32.toInt64 x1)) then (if (lg_cmp x0 (Int32.toInt64 x2)) ≤ 0 then (True ∧ Q (some (.int (Int64.toInt32 x0))) (N, am_ts T, I, L, am_rs r)) else (True ∧ Q (some (.int x2)) (N, am_ts T, I, L, am_rs r))) else (True ∧ Q (some (.int x1)) (N, am_ts T, I, L, am_rs r))) from ?_)
  by_cases hc : (0 : Int32) ≤ (lg_cmp x0 (Int32.toInt64 x1))
  · rw [if_pos hc] at hq ⊢
    by_cases hc : (lg_cmp x0 (Int32.toInt64 x2)) ≤ 0
    · rw [if_pos hc] at hq ⊢
      exact ⟨trivial, hq⟩
    · rw [if_neg hc] at hq ⊢
      exact ⟨trivial, hq⟩
  · rw [if_neg hc] at hq ⊢
    exact ⟨trivial, hq⟩
/-- KeyKeepersModel.is(II)Z -/
def f_248 (x0 : Int32) (x1 : Int32) : Int32 :=
  if ((x0 >>> (x1 &&& 31)) &&& 1) = 1 then
    1
  else
    0
set_option maxRecDepth 100000 in
theorem s_248 {S : am_S} {d N : Nat} {T : Nat → Nat × Nat} {I : Nat → Nat → Int32} {L : Nat → Nat → Int64} {r : Nat → Nat → Option Nat} {Q : am_Q} {x0 : Int32} {x1 : Int32} (hq : Q (some (.int (f_248 x0 x1))) (N, am_ts T, I, L, am_rs r)) : am_E S 248 (d + 0) 0 0 0 [.int x0, .int x1] [] (N, am_ts T, I, L, am_rs r) Q := by
  unfold f_248 at hq
  try dsimp only at hq
  refine am_E.run [] 2000 (show (if ((x0 >>> (x1 &&& 31)) &&& 1) = 1 then (((1 : Int32) = 0 ∨ (1 : Int32) = 1) ∧ Q (some (.int 1)) (N, am_ts T, I, L, am_rs r)) else (((0 : Int32) = 0 ∨ (0 : Int32) = 1) ∧ Q (some (.int 0)) (N, am_ts T, I, L, am_rs r))) from ?_)
  by_cases hc : ((x0 >>> (x1 &&& 31)) &&& 1) = 1
  · rw [if_pos hc] at hq ⊢
    exact ⟨Or.inr rfl, hq⟩
  · rw [if_neg hc] at hq ⊢
    exact ⟨Or.inl rfl, hq⟩
/-- KeyKeepersModel.trusts(II)Z -/
def f_249 (x0 : Int32) (x1 : Int32) (I : Nat → Nat → Int32) : Int32 :=
  let q0 := f_248 (I 68 (Int32.toNatClampNeg (42 + x0))) x1;
  q0
def p_249 (x0 : Int32) (x1 : Int32) (I : Nat → Nat → Int32) : Prop :=
  ¬ ((42 + x0) < 0 ∨ 5510 ≤ Int32.toNatClampNeg (42 + x0)) ∧
  (let q0 := f_248 (I 68 (Int32.toNatClampNeg (42 + x0))) x1;
    (q0 = 0 ∨ q0 = 1))
set_option maxRecDepth 100000 in
theorem s_249 {S : am_S} {d N : Nat} {T : Nat → Nat × Nat} {I : Nat → Nat → Int32} {L : Nat → Nat → Int64} {r : Nat → Nat → Option Nat} {Q : am_Q} {x0 : Int32} {x1 : Int32} (hp : p_249 x0 x1 I) (hq : Q (some (.int (f_249 x0 x1 I))) (N, am_ts T, I, L, am_rs r)) : am_E S 249 (d + 1) 0 0 0 [.ref 66, .int x0, .int x1] [] (N, am_ts T, I, L, am_rs r) Q := by
  unfold f_249 at hq
  unfold p_249 at hp
  try dsimp only at hq hp
  refine am_E.run [10] 2000 (show (if (42 + x0) < 0 ∨ 5510 ≤ Int32.toNatClampNeg (42 + x0) then False else (am_E S 249 (d + 1) 0 0 10 [.ref 66, .int x0, .int x1] [.int x1, .int (I 68 (Int32.toNatClampNeg (42 + x0)))] (N, am_ts T, I, L, am_rs r) Q)) from ?_)
  rw [if_neg hp.1]
  replace hp := hp.2
  refine am_E.go ⟨fun v h9 => v = some (.int (f_248 (I 68 (Int32.toNatClampNeg (42 + x0))) x1)) ∧ h9 = (N, am_ts T, I, L, am_rs r), s_248 ⟨rfl, rfl⟩, ?_⟩
  intro v h9 hv
  obtain ⟨rfl, rfl⟩ := hv
  generalize he_q0 : f_248 (I 68 (Int32.toNatClampNeg (42 + x0))) x1 = q0 at hq hp ⊢
  refine am_E.run [] 2000 (show ((q0 = 0 ∨ q0 = 1) ∧ Q (some (.int q0)) (N, am_ts T, I, L, am_rs r)) from ?_)
  exact ⟨hp, hq⟩
/-- KeyKeepersModel.ofDoor(II)I -/
def f_250 (x0 : Int32) (x1 : Int32) (I : Nat → Nat → Int32) : Int32 :=
  (I 68 (Int32.toNatClampNeg ((58 + (3 * x0)) + x1)))
def p_250 (x0 : Int32) (x1 : Int32) (I : Nat → Nat → Int32) : Prop :=
  ¬ (((58 + (3 * x0)) + x1) < 0 ∨ 5510 ≤ Int32.toNatClampNeg ((58 + (3 * x0)) + x1)) ∧
  True
set_option maxRecDepth 100000 in
theorem s_250 {S : am_S} {d N : Nat} {T : Nat → Nat × Nat} {I : Nat → Nat → Int32} {L : Nat → Nat → Int64} {r : Nat → Nat → Option Nat} {Q : am_Q} {x0 : Int32} {x1 : Int32} (hp : p_250 x0 x1 I) (hq : Q (some (.int (f_250 x0 x1 I))) (N, am_ts T, I, L, am_rs r)) : am_E S 250 (d + 0) 0 0 0 [.ref 66, .int x0, .int x1] [] (N, am_ts T, I, L, am_rs r) Q := by
  unfold f_250 at hq
  unfold p_250 at hp
  try dsimp only at hq hp
  refine am_E.run [] 2000 (show (if ((58 + (3 * x0)) + x1) < 0 ∨ 5510 ≤ Int32.toNatClampNeg ((58 + (3 * x0)) + x1) then False else (True ∧ Q (some (.int (I 68 (Int32.toNatClampNeg ((58 + (3 * x0)) + x1))))) (N, am_ts T, I, L, am_rs r))) from ?_)
  rw [if_neg hp.1]
  replace hp := hp.2
  exact ⟨trivial, hq⟩
/-- KeyKeepersModel.isAt(II)Z -/
def f_254 (x0 : Int32) (x1 : Int32) (I : Nat → Nat → Int32) : Int32 :=
  let q0 := f_250 x1 0 I;
  if q0 = x0 then
    1
  else
    let q1 := f_250 x1 1 I;
    if q1 = x0 then
      1
    else
      0
def p_254 (x0 : Int32) (x1 : Int32) (I : Nat → Nat → Int32) : Prop :=
  p_250 x1 0 I ∧
  (let q0 := f_250 x1 0 I;
    if q0 = x0 then
      True
    else
      p_250 x1 1 I ∧
      (let q1 := f_250 x1 1 I;
        True))
set_option maxRecDepth 100000 in
theorem s_254 {S : am_S} {d N : Nat} {T : Nat → Nat × Nat} {I : Nat → Nat → Int32} {L : Nat → Nat → Int64} {r : Nat → Nat → Option Nat} {Q : am_Q} {x0 : Int32} {x1 : Int32} (hp : p_254 x0 x1 I) (hq : Q (some (.int (f_254 x0 x1 I))) (N, am_ts T, I, L, am_rs r)) : am_E S 254 (d + 1) 0 0 0 [.ref 66, .int x0, .int x1] [] (N, am_ts T, I, L, am_rs r) Q := by
  unfold f_254 at hq
  unfold p_254 at hp
  try dsimp only at hq hp
  refine am_E.run [3] 2000 (show (am_E S 254 (d + 1) 0 0 3 [.ref 66, .int x0, .int x1] [.int 0, .int x1, .ref 66] (N, am_ts T, I, L, am_rs r) Q) from ?_)
  refine am_E.go ⟨fun v h9 => v = some (.int (f_250 x1 0 I)) ∧ h9 = (N, am_ts T, I, L, am_rs r), s_250 hp.1 ⟨rfl, rfl⟩, ?_⟩
  replace hp := hp.2
  intro v h9 hv
  obtain ⟨rfl, rfl⟩ := hv
  generalize he_q0 : f_250 x1 0 I = q0 at hq hp ⊢
  refine am_E.run [13] 2000 (show (if q0 = x0 then (((1 : Int32) = 0 ∨ (1 : Int32) = 1) ∧ Q (some (.int 1)) (N, am_ts T, I, L, am_rs r)) else (am_E S 254 (d + 1) 0 0 13 [.ref 66, .int x0, .int x1] [.int 1, .int x1, .ref 66] (N, am_ts T, I, L, am_rs r) Q)) from ?_)
  by_cases hc : q0 = x0
  · rw [if_pos hc] at hq hp ⊢
    exact ⟨Or.inr rfl, hq⟩
  · rw [if_neg hc] at hq hp ⊢
    refine am_E.go ⟨fun v h9 => v = some (.int (f_250 x1 1 I)) ∧ h9 = (N, am_ts T, I, L, am_rs r), s_250 hp.1 ⟨rfl, rfl⟩, ?_⟩
    replace hp := hp.2
    intro v h9 hv
    obtain ⟨rfl, rfl⟩ := hv
    generalize he_q1 : f_250 x1 1 I = q1 at hq ⊢
    refine am_E.run [] 2000 (show (if q1 = x0 then (((1 : Int32) = 0 ∨ (1 : Int32) = 1) ∧ Q (some (.int 1)) (N, am_ts T, I, L, am_rs r)) else (((0 : Int32) = 0 ∨ (0 : Int32) = 1) ∧ Q (some (.int 0)) (N, am_ts T, I, L, am_rs r))) from ?_)
    by_cases hc : q1 = x0
    · rw [if_pos hc] at hq ⊢
      exact ⟨Or.inr rfl, hq⟩
    · rw [if_neg hc] at hq ⊢
      exact ⟨Or.inl rfl, hq⟩
def lp_256_2 : Nat → Int32 → Int32 → (Nat → Nat → Int32) → (Nat → Nat → Int64) → Nat × Int32 × Int32 × (Nat → Nat → Int32) × (Nat → Nat → Int64)
  | 0, v1, v2, I, L => (0, 0, v2, I, L)
  | n + 1, v1, v2, I, L =>
    if (21 : Int32) ≤ v2 then
      (0, 0, v2, I, L)
    else
      lp_256_2 n v1 (v2 + 1) (am_u I 71 (Int32.toNatClampNeg ((21 * v1) + v2)) (I 68 (Int32.toNatClampNeg (5 + v2)))) L
def lq_256_2 : Nat → Int32 → Int32 → (Nat → Nat → Int32) → (Nat → Nat → Int64) → Prop
  | 0, v1, v2, I, L => False
  | n + 1, v1, v2, I, L =>
    if (21 : Int32) ≤ v2 then
      True
    else
      ¬ ((5 + v2) < 0 ∨ 5510 ≤ Int32.toNatClampNeg (5 + v2)) ∧
      ¬ (((21 * v1) + v2) < 0 ∨ 378 ≤ Int32.toNatClampNeg ((21 * v1) + v2)) ∧
      lq_256_2 n v1 (v2 + 1) (am_u I 71 (Int32.toNatClampNeg ((21 * v1) + v2)) (I 68 (Int32.toNatClampNeg (5 + v2)))) L
set_option maxRecDepth 100000 in
theorem sl_256_2 {S : am_S} {d N : Nat} {T : Nat → Nat × Nat} {r : Nat → Nat → Option Nat} {Q : am_Q} : ∀ (n : Nat) {v1 : Int32} {v2 : Int32} {I : Nat → Nat → Int32} {L : Nat → Nat → Int64} (hp : lq_256_2 n v1 v2 I L) (h0 : (lp_256_2 n v1 v2 I L).1 = 0 → am_E S 256 (d + 0) 0 0 33 [.ref 66, .int v1, .int (lp_256_2 n v1 v2 I L).2.2.1] [] (N, am_ts T, (lp_256_2 n v1 v2 I L).2.2.2.1, (lp_256_2 n v1 v2 I L).2.2.2.2, am_rs r) Q), am_E S 256 (d + 0) 0 0 2 [.ref 66, .int v1, .int v2] [] (N, am_ts T, I, L, am_rs r) Q
  | 0, _, _, _, _, hp, _ => hp.elim
  | n + 1, v1, v2, I, L, hp, h0 => by
    have ih := @sl_256_2 S d N T r Q n
    unfold lp_256_2 at h0
    unfold lq_256_2 at hp
    try dsimp only at h0 hp
    refine am_E.run [2, 33] 2000 (show (if (21 : Int32) ≤ v2 then (am_E S 256 (d + 0) 0 0 33 [.ref 66, .int v1, .int v2] [] (N, am_ts T, I, L, am_rs r) Q) else (if (5 + v2) < 0 ∨ 5510 ≤ Int32.toNatClampNeg (5 + v2) then False else (if ((21 * v1) + v2) < 0 ∨ 378 ≤ Int32.toNatClampNeg ((21 * v1) + v2) then False else (am_E S 256 (d + 0) 0 0 2 [.ref 66, .int v1, .int (v2 + 1)] [] (N, am_ts T, (am_u I 71 (Int32.toNatClampNeg ((21 * v1) + v2)) (I 68 (Int32.toNatClampNeg (5 + v2)))), L, am_rs r) Q)))) from ?_)
    by_cases hc : (21 : Int32) ≤ v2
    · rw [if_pos hc] at h0 hp ⊢
      exact h0 rfl
    · rw [if_neg hc] at h0 hp ⊢
      rw [if_neg hp.1]
      replace hp := hp.2
      rw [if_neg hp.1]
      replace hp := hp.2
      exact ih hp h0
/-- KeyKeepersModel.keepAll(I)V -/
def f_256 (x0 : Int32) (I : Nat → Nat → Int32) (L : Nat → Nat → Int64) : Int32 × (Nat → Nat → Int32) × (Nat → Nat → Int64) :=
  let q0 := lp_256_2 am_fu x0 0 I L;
  (0, q0.2.2.2.1, q0.2.2.2.2)
def p_256 (x0 : Int32) (I : Nat → Nat → Int32) (L : Nat → Nat → Int64) : Prop :=
  lq_256_2 am_fu x0 0 I L ∧
  (let q0 := lp_256_2 am_fu x0 0 I L;
    True)
set_option maxRecDepth 100000 in
theorem s_256 {S : am_S} {d N : Nat} {T : Nat → Nat × Nat} {I : Nat → Nat → Int32} {L : Nat → Nat → Int64} {r : Nat → Nat → Option Nat} {Q : am_Q} {x0 : Int32} (hp : p_256 x0 I L) (hq : Q (none) (N, am_ts T, (f_256 x0 I L).2.1, (f_256 x0 I L).2.2, am_rs r)) : am_E S 256 (d + 0) 0 0 0 [.ref 66, .int x0, am_jk] [] (N, am_ts T, I, L, am_rs r) Q := by
  unfold f_256 at hq
  unfold p_256 at hp
  try dsimp only at hq hp
  refine am_E.run [2] 2000 (show (am_E S 256 (d + 0) 0 0 2 [.ref 66, .int x0, .int 0] [] (N, am_ts T, I, L, am_rs r) Q) from ?_)
  refine sl_256_2 am_fu hp.1 (fun hk => ?_)
  · replace hp := hp.2
    generalize he_q0 : lp_256_2 am_fu x0 0 I L = q0 at hq hp hk ⊢
    refine am_E.run [] 2000 (show (True ∧ Q (none) (N, am_ts T, q0.2.2.2.1, q0.2.2.2.2, am_rs r)) from ?_)
    exact ⟨trivial, hq⟩
