/-- KeyKeepers.status()I -/
def f_176 (I : Nat → Nat → Int32) : Int32 :=
  (I 0 12)
set_option maxRecDepth 100000 in
theorem s_176 {S : am_S} {d N : Nat} {T : Nat → Nat × Nat} {I : Nat → Nat → Int32} {L : Nat → Nat → Int64} {r : Nat → Nat → Option Nat} {Q : am_Q} (hq : Q (some (.int (f_176 I))) (N, am_ts T, I, L, am_rs r)) : am_E S 176 (d + 0) 0 0 0 [.ref 0] [] (N, am_ts T, I, L, am_rs r) Q := by
  unfold f_176 at hq
  try dsimp only at hq
  refine am_E.run [] 2000 (show (True ∧ Q (some (.int (I 0 12))) (N, am_ts T, I, L, am_rs r)) from ?_)
  exact ⟨trivial, hq⟩
/-- KeyKeepersModel.tell(I)I -/
def f_179 (x0 : Int32) (I : Nat → Nat → Int32) (L : Nat → Nat → Int64) : Int32 × (Nat → Nat → Int32) × (Nat → Nat → Int64) :=
  if (0 : Int32) ≤ x0 then
    if (0 : Int32) ≤ x0 then
      (x0, (am_u I 66 1 0), L)
    else
      (x0, (am_u (am_u I 66 1 0) 67 (Int32.toNatClampNeg (-x0)) ((I 67 (Int32.toNatClampNeg (-x0))) + 1)), L)
  else
    if (0 : Int32) ≤ x0 then
      (x0, (am_u I 66 1 x0), L)
    else
      (x0, (am_u (am_u I 66 1 x0) 67 (Int32.toNatClampNeg (-x0)) ((I 67 (Int32.toNatClampNeg (-x0))) + 1)), L)
def p_179 (x0 : Int32) (I : Nat → Nat → Int32) (L : Nat → Nat → Int64) : Prop :=
  if (0 : Int32) ≤ x0 then
    if (0 : Int32) ≤ x0 then
      True
    else
      ¬ ((-x0) < 0 ∨ 7 ≤ Int32.toNatClampNeg (-x0)) ∧
      ¬ ((-x0) < 0 ∨ 7 ≤ Int32.toNatClampNeg (-x0)) ∧
      True
  else
    if (0 : Int32) ≤ x0 then
      True
    else
      ¬ ((-x0) < 0 ∨ 7 ≤ Int32.toNatClampNeg (-x0)) ∧
      ¬ ((-x0) < 0 ∨ 7 ≤ Int32.toNatClampNeg (-x0)) ∧
      True
set_option maxRecDepth 100000 in
theorem s_179 {S : am_S} {d N : Nat} {T : Nat → Nat × Nat} {I : Nat → Nat → Int32} {L : Nat → Nat → Int64} {r : Nat → Nat → Option Nat} {Q : am_Q} {x0 : Int32} (hp : p_179 x0 I L) (hq : Q (some (.int (f_179 x0 I L).1)) (N, am_ts T, (f_179 x0 I L).2.1, (f_179 x0 I L).2.2, am_rs r)) : am_E S 179 (d + 0) 0 0 0 [.ref 66, .int x0] [] (N, am_ts T, I, L, am_rs r) Q := by
  unfold f_179 at hq
  unfold p_179 at hp
  try dsimp only at hq hp
  refine am_E.run [] 2000 (show (if (0 : Int32) ≤ x0 then (if (0 : Int32) ≤ x0 then (True ∧ Q (some (.int x0)) (N, am_ts T, (am_u I 66 1 0), L, am_rs r)) else (if (-x0) < 0 ∨ 7 ≤ Int32.toNatClampNeg (-x0) then False else (if (-x0) < 0 ∨ 7 ≤ Int32.toNatClampNeg (-x0) then False else (True ∧ Q (some (.int x0)) (N, am_ts T, (am_u (am_u I 66 1 0) 67 (Int32.toNatClampNeg (-x0)) ((I 67 (Int32.toNatClampNeg (-x0))) + 1)), L, am_rs r))))) else (if (0 : Int32) ≤ x0 then (True ∧ Q (some (.int x0)) (N, am_ts T, (am_u I 66 1 x0), L, am_rs r)) else (if (-x0) < 0 ∨ 7 ≤ Int32.toNatClampNeg (-x0) then False else (if (-x0) < 0 ∨ 7 ≤ Int32.toNatClampNeg (-x0) then False else (True ∧ Q (some (.int x0)) (N, am_ts T, (am_u (am_u I 66 1 x0) 67 (Int32.toNatClampNeg (-x0)) ((I 67 (Int32.toNatClampNeg (-x0))) + 1)), L, am_rs r)))))) from ?_)
  by_cases hc : (0 : Int32) ≤ x0
  · rw [if_pos hc] at hq hp ⊢
    by_cases hc : (0 : Int32) ≤ x0
    · rw [if_pos hc] at hq hp ⊢
      exact ⟨trivial, hq⟩
    · rw [if_neg hc] at hq hp ⊢
      rw [if_neg hp.1]
      replace hp := hp.2
      rw [if_neg hp.1]
      replace hp := hp.2
      exact ⟨trivial, hq⟩
  · rw [if_neg hc] at hq hp ⊢
    by_cases hc : (0 : Int32) ≤ x0
    · rw [if_pos hc] at hq hp ⊢
      exact ⟨trivial, hq⟩
    · rw [if_neg hc] at hq hp ⊢
      rw [if_neg hp.1]
      replace hp := hp.2
      rw [if_neg hp.1]
      replace hp := hp.2
      exact ⟨trivial, hq⟩
def lp_180_2 : Nat → Int32 → Int32 → (Nat → Nat → Int32) → (Nat → Nat → Int64) → Nat × Int32 × Int32 × (Nat → Nat → Int32) × (Nat → Nat → Int64)
  | 0, v1, v2, I, L => (0, 0, v2, I, L)
  | n + 1, v1, v2, I, L =>
    if (21 : Int32) ≤ v2 then
      (0, 0, v2, I, L)
    else
      lp_180_2 n v1 (v2 + 1) (am_u I 68 (Int32.toNatClampNeg (5 + v2)) (I 71 (Int32.toNatClampNeg ((21 * v1) + v2)))) L
def lq_180_2 : Nat → Int32 → Int32 → (Nat → Nat → Int32) → (Nat → Nat → Int64) → Prop
  | 0, v1, v2, I, L => False
  | n + 1, v1, v2, I, L =>
    if (21 : Int32) ≤ v2 then
      True
    else
      ¬ (((21 * v1) + v2) < 0 ∨ 378 ≤ Int32.toNatClampNeg ((21 * v1) + v2)) ∧
      ¬ ((5 + v2) < 0 ∨ 5510 ≤ Int32.toNatClampNeg (5 + v2)) ∧
      lq_180_2 n v1 (v2 + 1) (am_u I 68 (Int32.toNatClampNeg (5 + v2)) (I 71 (Int32.toNatClampNeg ((21 * v1) + v2)))) L
set_option maxRecDepth 100000 in
theorem sl_180_2 {S : am_S} {d N : Nat} {T : Nat → Nat × Nat} {r : Nat → Nat → Option Nat} {Q : am_Q} : ∀ (n : Nat) {v1 : Int32} {v2 : Int32} {I : Nat → Nat → Int32} {L : Nat → Nat → Int64} (hp : lq_180_2 n v1 v2 I L) (h0 : (lp_180_2 n v1 v2 I L).1 = 0 → am_E S 180 (d + 0) 0 0 33 [.ref 66, .int v1, .int (lp_180_2 n v1 v2 I L).2.2.1] [] (N, am_ts T, (lp_180_2 n v1 v2 I L).2.2.2.1, (lp_180_2 n v1 v2 I L).2.2.2.2, am_rs r) Q), am_E S 180 (d + 0) 0 0 2 [.ref 66, .int v1, .int v2] [] (N, am_ts T, I, L, am_rs r) Q
  | 0, _, _, _, _, hp, _ => hp.elim
  | n + 1, v1, v2, I, L, hp, h0 => by
    have ih := @sl_180_2 S d N T r Q n
    unfold lp_180_2 at h0
    unfold lq_180_2 at hp
    try dsimp only at h0 hp
    refine am_E.run [2, 33] 2000 (show (if (21 : Int32) ≤ v2 then (am_E S 180 (d + 0) 0 0 33 [.ref 66, .int v1, .int v2] [] (N, am_ts T, I, L, am_rs r) Q) else (if ((21 * v1) + v2) < 0 ∨ 378 ≤ Int32.toNatClampNeg ((21 * v1) + v2) then False else (if (5 + v2) < 0 ∨ 5510 ≤ Int32.toNatClampNeg (5 + v2) then False else (am_E S 180 (d + 0) 0 0 2 [.ref 66, .int v1, .int (v2 + 1)] [] (N, am_ts T, (am_u I 68 (Int32.toNatClampNeg (5 + v2)) (I 71 (Int32.toNatClampNeg ((21 * v1) + v2)))), L, am_rs r) Q)))) from ?_)
    by_cases hc : (21 : Int32) ≤ v2
    · rw [if_pos hc] at h0 hp ⊢
      exact h0 rfl
    · rw [if_neg hc] at h0 hp ⊢
      rw [if_neg hp.1]
      replace hp := hp.2
      rw [if_neg hp.1]
      replace hp := hp.2
      exact ih hp h0
/-- KeyKeepersModel.putBack(I)V -/
def f_180 (x0 : Int32) (I : Nat → Nat → Int32) (L : Nat → Nat → Int64) : Int32 × (Nat → Nat → Int32) × (Nat → Nat → Int64) :=
  let q0 := lp_180_2 am_fu x0 0 I L;
  (0, q0.2.2.2.1, q0.2.2.2.2)
def p_180 (x0 : Int32) (I : Nat → Nat → Int32) (L : Nat → Nat → Int64) : Prop :=
  lq_180_2 am_fu x0 0 I L ∧
  (let q0 := lp_180_2 am_fu x0 0 I L;
    True)
set_option maxRecDepth 100000 in
theorem s_180 {S : am_S} {d N : Nat} {T : Nat → Nat × Nat} {I : Nat → Nat → Int32} {L : Nat → Nat → Int64} {r : Nat → Nat → Option Nat} {Q : am_Q} {x0 : Int32} (hp : p_180 x0 I L) (hq : Q (none) (N, am_ts T, (f_180 x0 I L).2.1, (f_180 x0 I L).2.2, am_rs r)) : am_E S 180 (d + 0) 0 0 0 [.ref 66, .int x0, am_jk] [] (N, am_ts T, I, L, am_rs r) Q := by
  unfold f_180 at hq
  unfold p_180 at hp
  try dsimp only at hq hp
  refine am_E.run [2] 2000 (show (am_E S 180 (d + 0) 0 0 2 [.ref 66, .int x0, .int 0] [] (N, am_ts T, I, L, am_rs r) Q) from ?_)
  refine sl_180_2 am_fu hp.1 (fun hk => ?_)
  · replace hp := hp.2
    generalize he_q0 : lp_180_2 am_fu x0 0 I L = q0 at hq hp hk ⊢
    refine am_E.run [] 2000 (show (True ∧ Q (none) (N, am_ts T, q0.2.2.2.1, q0.2.2.2.2, am_rs r)) from ?_)
    exact ⟨trivial, hq⟩
/-- KeyKeepersModel.in(JJJ)Z -/
def f_182 (x0 : Int64) (x1 : Int64) (x2 : Int64) : Int32 :=
  if (lg_cmp x0 x1) < 0 then
    0
  else
    if (0 : Int32) < (lg_cmp x0 x2) then
      0
    else
      1
set_option maxRecDepth 100000 in
theorem s_182 {S : am_S} {d N : Nat} {T : Nat → Nat × Nat} {I : Nat → Nat → Int32} {L : Nat → Nat → Int64} {r : Nat → Nat → Option Nat} {Q : am_Q} {x0 : Int64} {x1 : Int64} {x2 : Int64} (hq : Q (some (.int (f_182 x0 x1 x2))) (N, am_ts T, I, L, am_rs r)) : am_E S 182 (d + 0) 0 0 0 [.long x0, am_jk, .long x1, am_jk, .long x2, am_jk] [] (N, am_ts T, I, L, am_rs r) Q := by
  unfold f_182 at hq
  try dsimp only at hq
  refine am_E.run [] 2000 (show (if (lg_cmp x0 x1) < 0 then (((0 : Int32) = 0 ∨ (0 : Int32) = 1) ∧ Q (some (.int 0)) (N, am_ts T, I, L, am_rs r)) else (if (0 : Int32) < (lg_cmp x0 x2) then (((0 : Int32) = 0 ∨ (0 : Int32) = 1) ∧ Q (some (.int 0)) (N, am_ts T, I, L, am_rs r)) else (((1 : Int32) = 0 ∨ (1 : Int32) = 1) ∧ Q (some (.int 1)) (N, am_ts T, I, L, am_rs r)))) from ?_)
  by_cases hc : (lg_cmp x0 x1) < 0
  · rw [if_pos hc] at hq ⊢
    exact ⟨Or.inl rfl, hq⟩
  · rw [if_neg hc] at hq ⊢
    by_cases hc : (0 : Int32) < (lg_cmp x0 x2)
    · rw [if_pos hc] at hq ⊢
      exact ⟨Or.inl rfl, hq⟩
    · rw [if_neg hc] at hq ⊢
      exact ⟨Or.inr rfl, hq⟩
/-- KeyKeepersModel.settled(I)I -/
def f_184 (x0 : Int32) (I : Nat → Nat → Int32) (L : Nat → Nat → Int64) : Int32 × (Nat → Nat → Int32) × (Nat → Nat → Int64) :=
  if (0 : Int32) ≤ x0 then
    let q0 := f_179 x0 (am_u I 66 8 0) L;
    (q0.1, q0.2.1, q0.2.2)
  else
    let q1 := f_179 x0 (am_u I 66 8 (I 66 8)) L;
    (q1.1, q1.2.1, q1.2.2)
def p_184 (x0 : Int32) (I : Nat → Nat → Int32) (L : Nat → Nat → Int64) : Prop :=
  if (0 : Int32) ≤ x0 then
    p_179 x0 (am_u I 66 8 0) L ∧
    (let q0 := f_179 x0 (am_u I 66 8 0) L;
      True)
  else
    p_179 x0 (am_u I 66 8 (I 66 8)) L ∧
    (let q1 := f_179 x0 (am_u I 66 8 (I 66 8)) L;
      True)
set_option maxRecDepth 100000 in
theorem s_184 {S : am_S} {d N : Nat} {T : Nat → Nat × Nat} {I : Nat → Nat → Int32} {L : Nat → Nat → Int64} {r : Nat → Nat → Option Nat} {Q : am_Q} {x0 : Int32} (hp : p_184 x0 I L) (hq : Q (some (.int (f_184 x0 I L).1)) (N, am_ts T, (f_184 x0 I L).2.1, (f_184 x0 I L).2.2, am_rs r)) : am_E S 184 (d + 1) 0 0 0 [.ref 66, .int x0] [] (N, am_ts T, I, L, am_rs r) Q := by
  unfold f_184 at hq
  unfold p_184 at hp
  try dsimp only at hq hp
  refine am_E.run [18] 2000 (show (if (0 : Int32) ≤ x0 then (am_E S 184 (d + 1) 0 0 18 [.ref 66, .int x0] [.int x0, .ref 66] (N, am_ts T, (am_u I 66 8 0), L, am_rs r) Q) else (am_E S 184 (d + 1) 0 0 18 [.ref 66, .int x0] [.int x0, .ref 66] (N, am_ts T, (am_u I 66 8 (I 66 8)), L, am_rs r) Q)) from ?_)
  by_cases hc : (0 : Int32) ≤ x0
  · rw [if_pos hc] at hq hp ⊢
    refine am_E.go ⟨fun v h9 => v = some (.int (f_179 x0 (am_u I 66 8 0) L).1) ∧ h9 = (N, am_ts T, (f_179 x0 (am_u I 66 8 0) L).2.1, (f_179 x0 (am_u I 66 8 0) L).2.2, am_rs r), s_179 hp.1 ⟨rfl, rfl⟩, ?_⟩
    replace hp := hp.2
    intro v h9 hv
    obtain ⟨rfl, rfl⟩ := hv
    generalize he_q0 : f_179 x0 (am_u I 66 8 0) L = q0 at hq ⊢
    refine am_E.run [] 2000 (show (True ∧ Q (some (.int q0.1)) (N, am_ts T, q0.2.1, q0.2.2, am_rs r)) from ?_)
    exact ⟨trivial, hq⟩
  · rw [if_neg hc] at hq hp ⊢
    refine am_E.go ⟨fun v h9 => v = some (.int (f_179 x0 (am_u I 66 8 (I 66 8)) L).1) ∧ h9 = (N, am_ts T, (f_179 x0 (am_u I 66 8 (I 66 8)) L).2.1, (f_179 x0 (am_u I 66 8 (I 66 8)) L).2.2, am_rs r), s_179 hp.1 ⟨rfl, rfl⟩, ?_⟩
    replace hp := hp.2
    intro v h9 hv
    obtain ⟨rfl, rfl⟩ := hv
    generalize he_q1 : f_179 x0 (am_u I 66 8 (I 66 8)) L = q1 at hq ⊢
    refine am_E.run [] 2000 (show (True ∧ Q (some (.int q1.1)) (N, am_ts T, q1.2.1, q1.2.2, am_rs r)) from ?_)
    exact ⟨trivial, hq⟩
/-- KeyKeepersModel.door(II)I -/
def f_185 (x0 : Int32) (x1 : Int32) (I : Nat → Nat → Int32) (L : Nat → Nat → Int64) : Int32 × (Nat → Nat → Int32) × (Nat → Nat → Int64) :=
  let q0 := f_182 (Int32.toInt64 x0) 0 9;
  if q0 = 0 then
    let q1 := f_179 (-1) (am_u I 66 0 0) L;
    (q1.1, q1.2.1, q1.2.2)
  else
    let q2 := f_182 (Int32.toInt64 x1) 0 9;
    if q2 = 0 then
      let q3 := f_179 (-1) (am_u I 66 0 0) L;
      (q3.1, q3.2.1, q3.2.2)
    else
      if x0 = x1 then
        let q6 := f_179 (-1) (am_u I 66 0 0) L;
        (q6.1, q6.2.1, q6.2.2)
      else
        if (I 68 0) = 12 then
          let q5 := f_179 (-5) (am_u I 66 0 0) L;
          (q5.1, q5.2.1, q5.2.2)
        else
          let q4 := f_179 (I 68 0) (am_u (am_u (am_u (am_u (am_u I 66 0 0) 68 (Int32.toNatClampNeg (58 + (3 * (I 68 0)))) x0) 68 (Int32.toNatClampNeg ((58 + (3 * (I 68 0))) + 1)) x1) 68 (Int32.toNatClampNeg ((58 + (3 * (I 68 0))) + 2)) 0) 68 0 (((am_u (am_u (am_u (am_u I 66 0 0) 68 (Int32.toNatClampNeg (58 + (3 * (I 68 0)))) x0) 68 (Int32.toNatClampNeg ((58 + (3 * (I 68 0))) + 1)) x1) 68 (Int32.toNatClampNeg ((58 + (3 * (I 68 0))) + 2)) 0) 68 0) + 1)) L;
          (q4.1, q4.2.1, q4.2.2)
def p_185 (x0 : Int32) (x1 : Int32) (I : Nat → Nat → Int32) (L : Nat → Nat → Int64) : Prop :=
  (let q0 := f_182 (Int32.toInt64 x0) 0 9;
    if q0 = 0 then
      p_179 (-1) (am_u I 66 0 0) L ∧
      (let q1 := f_179 (-1) (am_u I 66 0 0) L;
        True)
    else
      (let q2 := f_182 (Int32.toInt64 x1) 0 9;
        if q2 = 0 then
          p_179 (-1) (am_u I 66 0 0) L ∧
          (let q3 := f_179 (-1) (am_u I 66 0 0) L;
            True)
        else
          if x0 = x1 then
            p_179 (-1) (am_u I 66 0 0) L ∧
            (let q6 := f_179 (-1) (am_u I 66 0 0) L;
              True)
          else
            if (I 68 0) = 12 then
              p_179 (-5) (am_u I 66 0 0) L ∧
              (let q5 := f_179 (-5) (am_u I 66 0 0) L;
                True)
            else
              ¬ ((58 + (3 * (I 68 0))) < 0 ∨ 5510 ≤ Int32.toNatClampNeg (58 + (3 * (I 68 0)))) ∧
              ¬ (((58 + (3 * (I 68 0))) + 1) < 0 ∨ 5510 ≤ Int32.toNatClampNeg ((58 + (3 * (I 68 0))) + 1)) ∧
              ¬ (((58 + (3 * (I 68 0))) + 2) < 0 ∨ 5510 ≤ Int32.toNatClampNeg ((58 + (3 * (I 68 0))) + 2)) ∧
              p_179 (I 68 0) (am_u (am_u (am_u (am_u (am_u I 66 0 0) 68 (Int32.toNatClampNeg (58 + (3 * (I 68 0)))) x0) 68 (Int32.toNatClampNeg ((58 + (3 * (I 68 0))) + 1)) x1) 68 (Int32.toNatClampNeg ((58 + (3 * (I 68 0))) + 2)) 0) 68 0 (((am_u (am_u (am_u (am_u I 66 0 0) 68 (Int32.toNatClampNeg (58 + (3 * (I 68 0)))) x0) 68 (Int32.toNatClampNeg ((58 + (3 * (I 68 0))) + 1)) x1) 68 (Int32.toNatClampNeg ((58 + (3 * (I 68 0))) + 2)) 0) 68 0) + 1)) L ∧
              (let q4 := f_179 (I 68 0) (am_u (am_u (am_u (am_u (am_u I 66 0 0) 68 (Int32.toNatClampNeg (58 + (3 * (I 68 0)))) x0) 68 (Int32.toNatClampNeg ((58 + (3 * (I 68 0))) + 1)) x1) 68 (Int32.toNatClampNeg ((58 + (3 * (I 68 0))) + 2)) 0) 68 0 (((am_u (am_u (am_u (am_u I 66 0 0) 68 (Int32.toNatClampNeg (58 + (3 * (I 68 0)))) x0) 68 (Int32.toNatClampNeg ((58 + (3 * (I 68 0))) + 1)) x1) 68 (Int32.toNatClampNeg ((58 + (3 * (I 68 0))) + 2)) 0) 68 0) + 1)) L;
                True)))
set_option maxRecDepth 100000 in
theorem s_185 {S : am_S} {d N : Nat} {T : Nat → Nat × Nat} {I : Nat → Nat → Int32} {L : Nat → Nat → Int64} {r : Nat → Nat → Option Nat} {Q : am_Q} {x0 : Int32} {x1 : Int32} (hp : p_185 x0 x1 I L) (hq : Q (some (.int (f_185 x0 x1 I L).1)) (N, am_ts T, (f_185 x0 x1 I L).2.1, (f_185 x0 x1 I L).2.2, am_rs r)) : am_E S 185 (d + 1) 0 0 0 [.ref 66, .int x0, .int x1, am_jk, am_jk] [] (N, am_ts T, I, L, am_rs r) Q := by
  unfold f_185 at hq
  unfold p_185 at hp
  try dsimp only at hq hp
  refine am_E.run [11] 2000 (show (am_E S 185 (d + 1) 0 0 11 [.ref 66, .int x0, .int x1, am_jk, am_jk] [.long 9, .long 0, .long (Int32.toInt64 x0)] (N, am_ts T, (am_u I 66 0 0), L, am_rs r) Q) from ?_)
  refine am_E.go ⟨fun v h9 => v = some (.int (f_182 (Int32.toInt64 x0) 0 9)) ∧ h9 = (N, am_ts T, (am_u I 66 0 0), L, am_rs r), s_182 ⟨rfl, rfl⟩, ?_⟩
  intro v h9 hv
  obtain ⟨rfl, rfl⟩ := hv
  generalize he_q0 : f_182 (Int32.toInt64 x0) 0 9 = q0 at hq hp ⊢
  refine am_E.run [23, 36] 2000 (show (if q0 = 0 then (am_E S 185 (d + 1) 0 0 36 [.ref 66, .int x0, .int x1, am_jk, am_jk] [.int (-1), .ref 66] (N, am_ts T, (am_u I 66 0 0), L, am_rs r) Q) else (am_E S 185 (d + 1) 0 0 23 [.ref 66, .int x0, .int x1, am_jk, am_jk] [.long 9, .long 0, .long (Int32.toInt64 x1)] (N, am_ts T, (am_u I 66 0 0), L, am_rs r) Q)) from ?_)
  by_cases hc : q0 = 0
  · rw [if_pos hc] at hq hp ⊢
    refine am_E.go ⟨fun v h9 => v = some (.int (f_179 (-1) (am_u I 66 0 0) L).1) ∧ h9 = (N, am_ts T, (f_179 (-1) (am_u I 66 0 0) L).2.1, (f_179 (-1) (am_u I 66 0 0) L).2.2, am_rs r), s_179 hp.1 ⟨rfl, rfl⟩, ?_⟩
    replace hp := hp.2
    intro v h9 hv
    obtain ⟨rfl, rfl⟩ := hv
    generalize he_q1 : f_179 (-1) (am_u I 66 0 0) L = q1 at hq ⊢
    refine am_E.run [] 2000 (show (True ∧ Q (some (.int q1.1)) (N, am_ts T, q1.2.1, q1.2.2, am_rs r)) from ?_)
    exact ⟨trivial, hq⟩
  · rw [if_neg hc] at hq hp ⊢
    refine am_E.go ⟨fun v h9 => v = some (.int (f_182 (Int32.toInt64 x1) 0 9)) ∧ h9 = (N, am_ts T, (am_u I 66 0 0), L, am_rs r), s_182 ⟨rfl, rfl⟩, ?_⟩
    intro v h9 hv
    obtain ⟨rfl, rfl⟩ := hv
    generalize he_q2 : f_182 (Int32.toInt64 x1) 0 9 = q2 at hq hp ⊢
    refine am_E.run [36, 56, 108] 2000 (show (if q2 = 0 then (am_E S 185 (d + 1) 0 0 36 [.ref 66, .int x0, .int x1, am_jk, am_jk] [.int (-1), .ref 66] (N, am_ts T, (am_u I 66 0 0), L, am_rs r) Q) else (if x0 = x1 then (am_E S 185 (d + 1) 0 0 36 [.ref 66, .int x0, .int x1, am_jk, am_jk] [.int (-1), .ref 66] (N, am_ts T, (am_u I 66 0 0), L, am_rs r) Q) else (if (I 68 0) = 12 then (am_E S 185 (d + 1) 0 0 56 [.ref 66, .int x0, .int x1, .int (I 68 0), am_jk] [.int (-5), .ref 66] (N, am_ts T, (am_u I 66 0 0), L, am_rs r) Q) else (if (58 + (3 * (I 68 0))) < 0 ∨ 5510 ≤ Int32.toNatClampNeg (58 + (3 * (I 68 0))) then False else (if ((58 + (3 * (I 68 0))) + 1) < 0 ∨ 5510 ≤ Int32.toNatClampNeg ((58 + (3 * (I 68 0))) + 1) then False else (if ((58 + (3 * (I 68 0))) + 2) < 0 ∨ 5510 ≤ Int32.toNatClampNeg ((58 + (3 * (I 68 0))) + 2) then False else (am_E S 185 (d + 1) 0 0 108 [.ref 66, .int x0, .int x1, .int (I 68 0), .int (58 + (3 * (I 68 0)))] [.int (I 68 0), .ref 66] (N, am_ts T, (am_u (am_u (am_u (am_u (am_u I 66 0 0) 68 (Int32.toNatClampNeg (58 + (3 * (I 68 0)))) x0) 68 (Int32.toNatClampNeg ((58 + (3 * (I 68 0))) + 1)) x1) 68 (Int32.toNatClampNeg ((58 + (3 * (I 68 0))) + 2)) 0) 68 0 (((am_u (am_u (am_u (am_u I 66 0 0) 68 (Int32.toNatClampNeg (58 + (3 * (I 68 0)))) x0) 68 (Int32.toNatClampNeg ((58 + (3 * (I 68 0))) + 1)) x1) 68 (Int32.toNatClampNeg ((58 + (3 * (I 68 0))) + 2)) 0) 68 0) + 1)), L, am_rs r) Q))))))) from ?_)
    by_cases hc : q2 = 0
    · rw [if_pos hc] at hq hp ⊢
      refine am_E.go ⟨fun v h9 => v = some (.int (f_179 (-1) (am_u I 66 0 0) L).1) ∧ h9 = (N, am_ts T, (f_179 (-1) (am_u I 66 0 0) L).2.1, (f_179 (-1) (am_u I 66 0 0) L).2.2, am_rs r), s_179 hp.1 ⟨rfl, rfl⟩, ?_⟩
      replace hp := hp.2
      intro v h9 hv
      obtain ⟨rfl, rfl⟩ := hv
      generalize he_q3 : f_179 (-1) (am_u I 66 0 0) L = q3 at hq ⊢
      refine am_E.run [] 2000 (show (True ∧ Q (some (.int q3.1)) (N, am_ts T, q3.2.1, q3.2.2, am_rs r)) from ?_)
      exact ⟨trivial, hq⟩
    · rw [if_neg hc] at hq hp ⊢
      by_cases hc : x0 = x1
      · rw [if_pos hc] at hq hp ⊢
        refine am_E.go ⟨fun v h9 => v = some (.int (f_179 (-1) (am_u I 66 0 0) L).1) ∧ h9 = (N, am_ts T, (f_179 (-1) (am_u I 66 0 0) L).2.1, (f_179 (-1) (am_u I 66 0 0) L).2.2, am_rs r), s_179 hp.1 ⟨rfl, rfl⟩, ?_⟩
        replace hp := hp.2
        intro v h9 hv
        obtain ⟨rfl, rfl⟩ := hv
        generalize he_q6 : f_179 (-1) (am_u I 66 0 0) L = q6 at hq ⊢
        refine am_E.run [] 2000 (show (True ∧ Q (some (.int q6.1)) (N, am_ts T, q6.2.1, q6.2.2, am_rs r)) from ?_)
        exact ⟨trivial, hq⟩
      · rw [if_neg hc] at hq hp ⊢
        by_cases hc : (I 68 0) = 12
        · rw [if_pos hc] at hq hp ⊢
          refine am_E.go ⟨fun v h9 => v = some (.int (f_179 (-5) (am_u I 66 0 0) L).1) ∧ h9 = (N, am_ts T, (f_179 (-5) (am_u I 66 0 0) L).2.1, (f_179 (-5) (am_u I 66 0 0) L).2.2, am_rs r), s_179 hp.1 ⟨rfl, rfl⟩, ?_⟩
          replace hp := hp.2
          intro v h9 hv
          obtain ⟨rfl, rfl⟩ := hv
          generalize he_q5 : f_179 (-5) (am_u I 66 0 0) L = q5 at hq ⊢
          refine am_E.run [] 2000 (show (True ∧ Q (some (.int q5.1)) (N, am_ts T, q5.2.1, q5.2.2, am_rs r)) from ?_)
          exact ⟨trivial, hq⟩
        · rw [if_neg hc] at hq hp ⊢
          rw [if_neg hp.1]
          replace hp := hp.2
          rw [if_neg hp.1]
          replace hp := hp.2
          rw [if_neg hp.1]
          replace hp := hp.2
          refine am_E.go ⟨fun v h9 => v = some (.int (f_179 (I 68 0) (am_u (am_u (am_u (am_u (am_u I 66 0 0) 68 (Int32.toNatClampNeg (58 + (3 * (I 68 0)))) x0) 68 (Int32.toNatClampNeg ((58 + (3 * (I 68 0))) + 1)) x1) 68 (Int32.toNatClampNeg ((58 + (3 * (I 68 0))) + 2)) 0) 68 0 (((am_u (am_u (am_u (am_u I 66 0 0) 68 (Int32.toNatClampNeg (58 + (3 * (I 68 0)))) x0) 68 (Int32.toNatClampNeg ((58 + (3 * (I 68 0))) + 1)) x1) 68 (Int32.toNatClampNeg ((58 + (3 * (I 68 0))) + 2)) 0) 68 0) + 1)) L).1) ∧ h9 = (N, am_ts T, (f_179 (I 68 0) (am_u (am_u (am_u (am_u (am_u I 66 0 0) 68 (Int32.toNatClampNeg (58 + (3 * (I 68 0)))) x0) 68 (Int32.toNatClampNeg ((58 + (3 * (I 68 0))) + 1)) x1) 68 (Int32.toNatClampNeg ((58 + (3 * (I 68 0))) + 2)) 0) 68 0 (((am_u (am_u (am_u (am_u I 66 0 0) 68 (Int32.toNatClampNeg (58 + (3 * (I 68 0)))) x0) 68 (Int32.toNatClampNeg ((58 + (3 * (I 68 0))) + 1)) x1) 68 (Int32.toNatClampNeg ((58 + (3 * (I 68 0))) + 2)) 0) 68 0) + 1)) L).2.1, (f_179 (I 68 0) (am_u (am_u (am_u (am_u (am_u I 66 0 0) 68 (Int32.toNatClampNeg (58 + (3 * (I 68 0)))) x0) 68 (Int32.toNatClampNeg ((58 + (3 * (I 68 0))) + 1)) x1) 68 (Int32.toNatClampNeg ((58 + (3 * (I 68 0))) + 2)) 0) 68 0 (((am_u (am_u (am_u (am_u I 66 0 0) 68 (Int32.toNatClampNeg (58 + (3 * (I 68 0)))) x0) 68 (Int32.toNatClampNeg ((58 + (3 * (I 68 0))) + 1)) x1) 68 (Int32.toNatClampNeg ((58 + (3 * (I 68 0))) + 2)) 0) 68 0) + 1)) L).2.2, am_rs r), s_179 hp.1 ⟨rfl, rfl⟩, ?_⟩
          replace hp := hp.2
          intro v h9 hv
          obtain ⟨rfl, rfl⟩ := hv
          generalize he_q4 : f_179 (I 68 0) (am_u (am_u (am_u (am_u (am_u I 66 0 0) 68 (Int32.toNatClampNeg (58 + (3 * (I 68 0)))) x0) 68 (Int32.toNatClampNeg ((58 + (3 * (I 68 0))) + 1)) x1) 68 (Int32.toNatClampNeg ((58 + (3 * (I 68 0))) + 2)) 0) 68 0 (((am_u (am_u (am_u (am_u I 66 0 0) 68 (Int32.toNatClampNeg (58 + (3 * (I 68 0)))) x0) 68 (Int32.toNatClampNeg ((58 + (3 * (I 68 0))) + 1)) x1) 68 (Int32.toNatClampNeg ((58 + (3 * (I 68 0))) + 2)) 0) 68 0) + 1)) L = q4 at hq ⊢
          refine am_E.run [] 2000 (show (True ∧ Q (some (.int q4.1)) (N, am_ts T, q4.2.1, q4.2.2, am_rs r)) from ?_)
          exact ⟨trivial, hq⟩
/-- KeyKeepersModel.isDoor(I)Z -/
def f_187 (x0 : Int32) (I : Nat → Nat → Int32) : Int32 :=
  let q0 := f_182 (Int32.toInt64 x0) 0 ((Int32.toInt64 (I 68 0)) - 1);
  q0
def p_187 (x0 : Int32) (I : Nat → Nat → Int32) : Prop :=
  (let q0 := f_182 (Int32.toInt64 x0) 0 ((Int32.toInt64 (I 68 0)) - 1);
    (q0 = 0 ∨ q0 = 1))
set_option maxRecDepth 100000 in
theorem s_187 {S : am_S} {d N : Nat} {T : Nat → Nat × Nat} {I : Nat → Nat → Int32} {L : Nat → Nat → Int64} {r : Nat → Nat → Option Nat} {Q : am_Q} {x0 : Int32} (hp : p_187 x0 I) (hq : Q (some (.int (f_187 x0 I))) (N, am_ts T, I, L, am_rs r)) : am_E S 187 (d + 1) 0 0 0 [.ref 66, .int x0] [] (N, am_ts T, I, L, am_rs r) Q := by
  unfold f_187 at hq
  unfold p_187 at hp
  try dsimp only at hq hp
  refine am_E.run [12] 2000 (show (am_E S 187 (d + 1) 0 0 12 [.ref 66, .int x0] [.long ((Int32.toInt64 (I 68 0)) - 1), .long 0, .long (Int32.toInt64 x0)] (N, am_ts T, I, L, am_rs r) Q) from ?_)
  refine am_E.go ⟨fun v h9 => v = some (.int (f_182 (Int32.toInt64 x0) 0 ((Int32.toInt64 (I 68 0)) - 1))) ∧ h9 = (N, am_ts T, I, L, am_rs r), s_182 ⟨rfl, rfl⟩, ?_⟩
  intro v h9 hv
  obtain ⟨rfl, rfl⟩ := hv
  generalize he_q0 : f_182 (Int32.toInt64 x0) 0 ((Int32.toInt64 (I 68 0)) - 1) = q0 at hq hp ⊢
  refine am_E.run [] 2000 (show ((q0 = 0 ∨ q0 = 1) ∧ Q (some (.int q0)) (N, am_ts T, I, L, am_rs r)) from ?_)
  exact ⟨hp, hq⟩
/-- KeyKeepersModel.change(II)I -/
def f_188 (x0 : Int32) (x1 : Int32) (I : Nat → Nat → Int32) (L : Nat → Nat → Int64) : Int32 × (Nat → Nat → Int32) × (Nat → Nat → Int64) :=
  ((I 68 (Int32.toNatClampNeg x0)), (am_u (am_u I 68 (Int32.toNatClampNeg x0) x1) 66 1 0), L)
def p_188 (x0 : Int32) (x1 : Int32) (I : Nat → Nat → Int32) (L : Nat → Nat → Int64) : Prop :=
  ¬ (x0 < 0 ∨ 5510 ≤ Int32.toNatClampNeg x0) ∧
  ¬ (x0 < 0 ∨ 5510 ≤ Int32.toNatClampNeg x0) ∧
  True
set_option maxRecDepth 100000 in
theorem s_188 {S : am_S} {d N : Nat} {T : Nat → Nat × Nat} {I : Nat → Nat → Int32} {L : Nat → Nat → Int64} {r : Nat → Nat → Option Nat} {Q : am_Q} {x0 : Int32} {x1 : Int32} (hp : p_188 x0 x1 I L) (hq : Q (some (.int (f_188 x0 x1 I L).1)) (N, am_ts T, (f_188 x0 x1 I L).2.1, (f_188 x0 x1 I L).2.2, am_rs r)) : am_E S 188 (d + 0) 0 0 0 [.ref 66, .int x0, .int x1, am_jk] [] (N, am_ts T, I, L, am_rs r) Q := by
  unfold f_188 at hq
  unfold p_188 at hp
  try dsimp only at hq hp
  refine am_E.run [] 2000 (show (if x0 < 0 ∨ 5510 ≤ Int32.toNatClampNeg x0 then False else (if x0 < 0 ∨ 5510 ≤ Int32.toNatClampNeg x0 then False else (True ∧ Q (some (.int (I 68 (Int32.toNatClampNeg x0)))) (N, am_ts T, (am_u (am_u I 68 (Int32.toNatClampNeg x0) x1) 66 1 0), L, am_rs r)))) from ?_)
  rw [if_neg hp.1]
  replace hp := hp.2
  rw [if_neg hp.1]
  replace hp := hp.2
  exact ⟨trivial, hq⟩
/-- KeyKeepersModel.prisoner1(III)I -/
def f_190 (x0 : Int32) (x1 : Int32) (x2 : Int32) (I : Nat → Nat → Int32) (L : Nat → Nat → Int64) : Int32 × (Nat → Nat → Int32) × (Nat → Nat → Int64) :=
  let q0 := f_182 (Int32.toInt64 x0) 1 99;
  if q0 = 0 then
    ((-1), I, L)
  else
    let q1 := f_182 (Int32.toInt64 x1) 0 9;
    if q1 = 0 then
      ((-1), I, L)
    else
      let q2 := f_182 (Int32.toInt64 x2) 1 9;
      if q2 = 0 then
        ((-1), I, L)
      else
        if (I 68 1) = 8 then
          ((-5), I, L)
        else
          ((I 68 1), (am_u (am_u (am_u (am_u (am_u (am_u (am_u I 68 (Int32.toNatClampNeg (26 + (I 68 1))) x0) 68 (Int32.toNatClampNeg (34 + (I 68 1))) x1) 68 (Int32.toNatClampNeg (10 + (I 68 1))) x2) 68 (Int32.toNatClampNeg (18 + (I 68 1))) 0) 68 (Int32.toNatClampNeg (42 + (I 68 1))) 0) 68 (Int32.toNatClampNeg (50 + (I 68 1))) 0) 68 1 (((am_u (am_u (am_u (am_u (am_u (am_u I 68 (Int32.toNatClampNeg (26 + (I 68 1))) x0) 68 (Int32.toNatClampNeg (34 + (I 68 1))) x1) 68 (Int32.toNatClampNeg (10 + (I 68 1))) x2) 68 (Int32.toNatClampNeg (18 + (I 68 1))) 0) 68 (Int32.toNatClampNeg (42 + (I 68 1))) 0) 68 (Int32.toNatClampNeg (50 + (I 68 1))) 0) 68 1) + 1)), L)
def p_190 (x0 : Int32) (x1 : Int32) (x2 : Int32) (I : Nat → Nat → Int32) (L : Nat → Nat → Int64) : Prop :=
  (let q0 := f_182 (Int32.toInt64 x0) 1 99;
    if q0 = 0 then
      True
    else
      (let q1 := f_182 (Int32.toInt64 x1) 0 9;
        if q1 = 0 then
          True
        else
          (let q2 := f_182 (Int32.toInt64 x2) 1 9;
            if q2 = 0 then
              True
            else
              if (I 68 1) = 8 then
                True
              else
                ¬ ((26 + (I 68 1)) < 0 ∨ 5510 ≤ Int32.toNatClampNeg (26 + (I 68 1))) ∧
                ¬ ((34 + (I 68 1)) < 0 ∨ 5510 ≤ Int32.toNatClampNeg (34 + (I 68 1))) ∧
                ¬ ((10 + (I 68 1)) < 0 ∨ 5510 ≤ Int32.toNatClampNeg (10 + (I 68 1))) ∧
                ¬ ((18 + (I 68 1)) < 0 ∨ 5510 ≤ Int32.toNatClampNeg (18 + (I 68 1))) ∧
                ¬ ((42 + (I 68 1)) < 0 ∨ 5510 ≤ Int32.toNatClampNeg (42 + (I 68 1))) ∧
                ¬ ((50 + (I 68 1)) < 0 ∨ 5510 ≤ Int32.toNatClampNeg (50 + (I 68 1))) ∧
                True)))
set_option maxRecDepth 100000 in
theorem s_190 {S : am_S} {d N : Nat} {T : Nat → Nat × Nat} {I : Nat → Nat → Int32} {L : Nat → Nat → Int64} {r : Nat → Nat → Option Nat} {Q : am_Q} {x0 : Int32} {x1 : Int32} {x2 : Int32} (hp : p_190 x0 x1 x2 I L) (hq : Q (some (.int (f_190 x0 x1 x2 I L).1)) (N, am_ts T, (f_190 x0 x1 x2 I L).2.1, (f_190 x0 x1 x2 I L).2.2, am_rs r)) : am_E S 190 (d + 1) 0 0 0 [.ref 66, .int x0, .int x1, .int x2, am_jk] [] (N, am_ts T, I, L, am_rs r) Q := by
  unfold f_190 at hq
  unfold p_190 at hp
  try dsimp only at hq hp
  refine am_E.run [6] 2000 (show (am_E S 190 (d + 1) 0 0 6 [.ref 66, .int x0, .int x1, .int x2, am_jk] [.long 99, .long 1, .long (Int32.toInt64 x0)] (N, am_ts T, I, L, am_rs r) Q) from ?_)
  refine am_E.go ⟨fun v h9 => v = some (.int (f_182 (Int32.toInt64 x0) 1 99)) ∧ h9 = (N, am_ts T, I, L, am_rs r), s_182 ⟨rfl, rfl⟩, ?_⟩
  intro v h9 hv
  obtain ⟨rfl, rfl⟩ := hv
  generalize he_q0 : f_182 (Int32.toInt64 x0) 1 99 = q0 at hq hp ⊢
  refine am_E.run [18] 2000 (show (if q0 = 0 then (True ∧ Q (some (.int (-1))) (N, am_ts T, I, L, am_rs r)) else (am_E S 190 (d + 1) 0 0 18 [.ref 66, .int x0, .int x1, .int x2, am_jk] [.long 9, .long 0, .long (Int32.toInt64 x1)] (N, am_ts T, I, L, am_rs r) Q)) from ?_)
  by_cases hc : q0 = 0
  · rw [if_pos hc] at hq hp ⊢
    exact ⟨trivial, hq⟩
  · rw [if_neg hc] at hq hp ⊢
    refine am_E.go ⟨fun v h9 => v = some (.int (f_182 (Int32.toInt64 x1) 0 9)) ∧ h9 = (N, am_ts T, I, L, am_rs r), s_182 ⟨rfl, rfl⟩, ?_⟩
    intro v h9 hv
    obtain ⟨rfl, rfl⟩ := hv
    generalize he_q1 : f_182 (Int32.toInt64 x1) 0 9 = q1 at hq hp ⊢
    refine am_E.run [30] 2000 (show (if q1 = 0 then (True ∧ Q (some (.int (-1))) (N, am_ts T, I, L, am_rs r)) else (am_E S 190 (d + 1) 0 0 30 [.ref 66, .int x0, .int x1, .int x2, am_jk] [.long 9, .long 1, .long (Int32.toInt64 x2)] (N, am_ts T, I, L, am_rs r) Q)) from ?_)
    by_cases hc : q1 = 0
    · rw [if_pos hc] at hq hp ⊢
      exact ⟨trivial, hq⟩
    · rw [if_neg hc] at hq hp ⊢
      refine am_E.go ⟨fun v h9 => v = some (.int (f_182 (Int32.toInt64 x2) 1 9)) ∧ h9 = (N, am_ts T, I, L, am_rs r), s_182 ⟨rfl, rfl⟩, ?_⟩
      intro v h9 hv
      obtain ⟨rfl, rfl⟩ := hv
      generalize he_q2 : f_182 (Int32.toInt64 x2) 1 9 = q2 at hq hp ⊢
      refine am_E.run [] 2000 (show (if q2 = 0 then (True ∧ Q (some (.int (-1))) (N, am_ts T, I, L, am_rs r)) else (if (I 68 1) = 8 then (True ∧ Q (some (.int (-5))) (N, am_ts T, I, L, am_rs r)) else (if (26 + (I 68 1)) < 0 ∨ 5510 ≤ Int32.toNatClampNeg (26 + (I 68 1)) then False else (if (34 + (I 68 1)) < 0 ∨ 5510 ≤ Int32.toNatClampNeg (34 + (I 68 1)) then False else (if (10 + (I 68 1)) < 0 ∨ 5510 ≤ Int32.toNatClampNeg (10 + (I 68 1)) then False else (if (18 + (I 68 1)) < 0 ∨ 5510 ≤ Int32.toNatClampNeg (18 + (I 68 1)) then False else (if (42 + (I 68 1)) < 0 ∨ 5510 ≤ Int32.toNatClampNeg (42 + (I 68 1)) then False else (if (50 + (I 68 1)) < 0 ∨ 5510 ≤ Int32.toNatClampNeg (50 + (I 68 1)) then False else (True ∧ Q (some (.int (I 68 1))) (N, am_ts T, (am_u (am_u (am_u (am_u (am_u (am_u (am_u I 68 (Int32.toNatClampNeg (26 + (I 68 1))) x0) 68 (Int32.toNatClampNeg (34 + (I 68 1))) x1) 68 (Int32.toNatClampNeg (10 + (I 68 1))) x2) 68 (Int32.toNatClampNeg (18 + (I 68 1))) 0) 68 (Int32.toNatClampNeg (42 + (I 68 1))) 0) 68 (Int32.toNatClampNeg (50 + (I 68 1))) 0) 68 1 (((am_u (am_u (am_u (am_u (am_u (am_u I 68 (Int32.toNatClampNeg (26 + (I 68 1))) x0) 68 (Int32.toNatClampNeg (34 + (I 68 1))) x1) 68 (Int32.toNatClampNeg (10 + (I 68 1))) x2) 68 (Int32.toNatClampNeg (18 + (I 68 1))) 0) 68 (Int32.toNatClampNeg (42 + (I 68 1))) 0) 68 (Int32.toNatClampNeg (50 + (I 68 1))) 0) 68 1) + 1)), L, am_rs r)))))))))) from ?_)
      by_cases hc : q2 = 0
      · rw [if_pos hc] at hq hp ⊢
        exact ⟨trivial, hq⟩
      · rw [if_neg hc] at hq hp ⊢
        by_cases hc : (I 68 1) = 8
        · rw [if_pos hc] at hq hp ⊢
          exact ⟨trivial, hq⟩
        · rw [if_neg hc] at hq hp ⊢
          rw [if_neg hp.1]
          replace hp := hp.2
          rw [if_neg hp.1]
          replace hp := hp.2
          rw [if_neg hp.1]
          replace hp := hp.2
          rw [if_neg hp.1]
          replace hp := hp.2
          rw [if_neg hp.1]
          replace hp := hp.2
          rw [if_neg hp.1]
          replace hp := hp.2
          exact ⟨trivial, hq⟩
/-- KeyKeepersModel.isMan(I)Z -/
def f_192 (x0 : Int32) (I : Nat → Nat → Int32) : Int32 :=
  let q0 := f_182 (Int32.toInt64 x0) 0 ((Int32.toInt64 (I 68 1)) - 1);
  q0
def p_192 (x0 : Int32) (I : Nat → Nat → Int32) : Prop :=
  (let q0 := f_182 (Int32.toInt64 x0) 0 ((Int32.toInt64 (I 68 1)) - 1);
    (q0 = 0 ∨ q0 = 1))
set_option maxRecDepth 100000 in
theorem s_192 {S : am_S} {d N : Nat} {T : Nat → Nat × Nat} {I : Nat → Nat → Int32} {L : Nat → Nat → Int64} {r : Nat → Nat → Option Nat} {Q : am_Q} {x0 : Int32} (hp : p_192 x0 I) (hq : Q (some (.int (f_192 x0 I))) (N, am_ts T, I, L, am_rs r)) : am_E S 192 (d + 1) 0 0 0 [.ref 66, .int x0] [] (N, am_ts T, I, L, am_rs r) Q := by
  unfold f_192 at hq
  unfold p_192 at hp
  try dsimp only at hq hp
  refine am_E.run [12] 2000 (show (am_E S 192 (d + 1) 0 0 12 [.ref 66, .int x0] [.long ((Int32.toInt64 (I 68 1)) - 1), .long 0, .long (Int32.toInt64 x0)] (N, am_ts T, I, L, am_rs r) Q) from ?_)
  refine am_E.go ⟨fun v h9 => v = some (.int (f_182 (Int32.toInt64 x0) 0 ((Int32.toInt64 (I 68 1)) - 1))) ∧ h9 = (N, am_ts T, I, L, am_rs r), s_182 ⟨rfl, rfl⟩, ?_⟩
  intro v h9 hv
  obtain ⟨rfl, rfl⟩ := hv
  generalize he_q0 : f_182 (Int32.toInt64 x0) 0 ((Int32.toInt64 (I 68 1)) - 1) = q0 at hq hp ⊢
  refine am_E.run [] 2000 (show ((q0 = 0 ∨ q0 = 1) ∧ Q (some (.int q0)) (N, am_ts T, I, L, am_rs r)) from ?_)
  exact ⟨hp, hq⟩
/-- KeyKeepersModel.changeBit(III)I -/
def f_194 (x0 : Int32) (x1 : Int32) (x2 : Int32) (I : Nat → Nat → Int32) (L : Nat → Nat → Int64) : Int32 × (Nat → Nat → Int32) × (Nat → Nat → Int64) :=
  if (((I 68 (Int32.toNatClampNeg x0)) >>> (x1 &&& 31)) &&& 1) = x2 then
    ((((I 68 (Int32.toNatClampNeg x0)) >>> (x1 &&& 31)) &&& 1), (am_u (am_u I 68 (Int32.toNatClampNeg x0) ((I 68 (Int32.toNatClampNeg x0)) + 0)) 66 1 0), L)
  else
    if x2 = 1 then
      ((((I 68 (Int32.toNatClampNeg x0)) >>> (x1 &&& 31)) &&& 1), (am_u (am_u I 68 (Int32.toNatClampNeg x0) ((I 68 (Int32.toNatClampNeg x0)) + (1 <<< (x1 &&& 31)))) 66 1 0), L)
    else
      ((((I 68 (Int32.toNatClampNeg x0)) >>> (x1 &&& 31)) &&& 1), (am_u (am_u I 68 (Int32.toNatClampNeg x0) ((I 68 (Int32.toNatClampNeg x0)) + (-(1 <<< (x1 &&& 31))))) 66 1 0), L)
def p_194 (x0 : Int32) (x1 : Int32) (x2 : Int32) (I : Nat → Nat → Int32) (L : Nat → Nat → Int64) : Prop :=
  ¬ (x0 < 0 ∨ 5510 ≤ Int32.toNatClampNeg x0) ∧
  ¬ (x0 < 0 ∨ 5510 ≤ Int32.toNatClampNeg x0) ∧
  if (((I 68 (Int32.toNatClampNeg x0)) >>> (x1 &&& 31)) &&& 1) = x2 then
    ¬ (x0 < 0 ∨ 5510 ≤ Int32.toNatClampNeg x0) ∧
    True
  else
    if x2 = 1 then
      ¬ (x0 < 0 ∨ 5510 ≤ Int32.toNatClampNeg x0) ∧
      True
    else
      ¬ (x0 < 0 ∨ 5510 ≤ Int32.toNatClampNeg x0) ∧
      True
set_option maxRecDepth 100000 in
theorem s_194 {S : am_S} {d N : Nat} {T : Nat → Nat × Nat} {I : Nat → Nat → Int32} {L : Nat → Nat → Int64} {r : Nat → Nat → Option Nat} {Q : am_Q} {x0 : Int32} {x1 : Int32} {x2 : Int32} (hp : p_194 x0 x1 x2 I L) (hq : Q (some (.int (f_194 x0 x1 x2 I L).1)) (N, am_ts T, (f_194 x0 x1 x2 I L).2.1, (f_194 x0 x1 x2 I L).2.2, am_rs r)) : am_E S 194 (d + 0) 0 0 0 [.ref 66, .int x0, .int x1, .int x2, am_jk] [] (N, am_ts T, I, L, am_rs r) Q := by
  unfold f_194 at hq
  unfold p_194 at hp
  try dsimp only at hq hp
  refine am_E.run [] 2000 (show (if x0 < 0 ∨ 5510 ≤ Int32.toNatClampNeg x0 then False else (if x0 < 0 ∨ 5510 ≤ Int32.toNatClampNeg x0 then False else (if (((I 68 (Int32.toNatClampNeg x0)) >>> (x1 &&& 31)) &&& 1) = x2 then (if x0 < 0 ∨ 5510 ≤ Int32.toNatClampNeg x0 then False else (True ∧ Q (some (.int (((I 68 (Int32.toNatClampNeg x0)) >>> (x1 &&& 31)) &&& 1))) (N, am_ts T, (am_u (am_u I 68 (Int32.toNatClampNeg x0) ((I 68 (Int32.toNatClampNeg x0)) + 0)) 66 1 0), L, am_rs r))) else (if x2 = 1 then (if x0 < 0 ∨ 5510 ≤ Int32.toNatClampNeg x0 then False else (True ∧ Q (some (.int (((I 68 (Int32.toNatClampNeg x0)) >>> (x1 &&& 31)) &&& 1))) (N, am_ts T, (am_u (am_u I 68 (Int32.toNatClampNeg x0) ((I 68 (Int32.toNatClampNeg x0)) + (1 <<< (x1 &&& 31)))) 66 1 0), L, am_rs r))) else (if x0 < 0 ∨ 5510 ≤ Int32.toNatClampNeg x0 then False else (True ∧ Q (some (.int (((I 68 (Int32.toNatClampNeg x0)) >>> (x1 &&& 31)) &&& 1))) (N, am_ts T, (am_u (am_u I 68 (Int32.toNatClampNeg x0) ((I 68 (Int32.toNatClampNeg x0)) + (-(1 <<< (x1 &&& 31))))) 66 1 0), L, am_rs r))))))) from ?_)
  rw [if_neg hp.1]
  replace hp := hp.2
  rw [if_neg hp.1]
  replace hp := hp.2
  by_cases hc : (((I 68 (Int32.toNatClampNeg x0)) >>> (x1 &&& 31)) &&& 1) = x2
  · rw [if_pos hc] at hq hp ⊢
    rw [if_neg hp.1]
    replace hp := hp.2
    exact ⟨trivial, hq⟩
  · rw [if_neg hc] at hq hp ⊢
    by_cases hc : x2 = 1
    · rw [if_pos hc] at hq hp ⊢
      rw [if_neg hp.1]
      replace hp := hp.2
      exact ⟨trivial, hq⟩
    · rw [if_neg hc] at hq hp ⊢
      rw [if_neg hp.1]
      replace hp := hp.2
      exact ⟨trivial, hq⟩
/-- KeyKeepersModel.trust(III)I -/
def f_195 (x0 : Int32) (x1 : Int32) (x2 : Int32) (I : Nat → Nat → Int32) (L : Nat → Nat → Int64) : Int32 × (Nat → Nat → Int32) × (Nat → Nat → Int64) :=
  if x0 = x1 then
    let q0 := f_179 (-1) (am_u I 66 0 0) L;
    (q0.1, q0.2.1, q0.2.2)
  else
    let q1 := f_182 (Int32.toInt64 x2) 0 1;
    if q1 = 0 then
      let q7 := f_179 (-1) (am_u I 66 0 0) L;
      (q7.1, q7.2.1, q7.2.2)
    else
      let q2 := f_192 x0 (am_u I 66 0 0);
      if q2 = 0 then
        let q3 := f_179 (-2) (am_u I 66 0 0) L;
        (q3.1, q3.2.1, q3.2.2)
      else
        let q4 := f_192 x1 (am_u I 66 0 0);
        if q4 = 0 then
          let q5 := f_179 (-2) (am_u I 66 0 0) L;
          (q5.1, q5.2.1, q5.2.2)
        else
          let q6 := f_194 (42 + x0) x1 x2 (am_u I 66 0 0) L;
          (q6.1, q6.2.1, q6.2.2)
def p_195 (x0 : Int32) (x1 : Int32) (x2 : Int32) (I : Nat → Nat → Int32) (L : Nat → Nat → Int64) : Prop :=
  if x0 = x1 then
    p_179 (-1) (am_u I 66 0 0) L ∧
    (let q0 := f_179 (-1) (am_u I 66 0 0) L;
      True)
  else
    (let q1 := f_182 (Int32.toInt64 x2) 0 1;
      if q1 = 0 then
        p_179 (-1) (am_u I 66 0 0) L ∧
        (let q7 := f_179 (-1) (am_u I 66 0 0) L;
          True)
      else
        p_192 x0 (am_u I 66 0 0) ∧
        (let q2 := f_192 x0 (am_u I 66 0 0);
          if q2 = 0 then
            p_179 (-2) (am_u I 66 0 0) L ∧
            (let q3 := f_179 (-2) (am_u I 66 0 0) L;
              True)
          else
            p_192 x1 (am_u I 66 0 0) ∧
            (let q4 := f_192 x1 (am_u I 66 0 0);
              if q4 = 0 then
                p_179 (-2) (am_u I 66 0 0) L ∧
                (let q5 := f_179 (-2) (am_u I 66 0 0) L;
                  True)
              else
                p_194 (42 + x0) x1 x2 (am_u I 66 0 0) L ∧
                (let q6 := f_194 (42 + x0) x1 x2 (am_u I 66 0 0) L;
                  True))))
set_option maxRecDepth 100000 in
theorem s_195 {S : am_S} {d N : Nat} {T : Nat → Nat × Nat} {I : Nat → Nat → Int32} {L : Nat → Nat → Int64} {r : Nat → Nat → Option Nat} {Q : am_Q} {x0 : Int32} {x1 : Int32} {x2 : Int32} (hp : p_195 x0 x1 x2 I L) (hq : Q (some (.int (f_195 x0 x1 x2 I L).1)) (N, am_ts T, (f_195 x0 x1 x2 I L).2.1, (f_195 x0 x1 x2 I L).2.2, am_rs r)) : am_E S 195 (d + 2) 0 0 0 [.ref 66, .int x0, .int x1, .int x2] [] (N, am_ts T, I, L, am_rs r) Q := by
  unfold f_195 at hq
  unfold p_195 at hp
  try dsimp only at hq hp
  refine am_E.run [14, 22] 2000 (show (if x0 = x1 then (am_E S 195 (d + 2) 0 0 22 [.ref 66, .int x0, .int x1, .int x2] [.int (-1), .ref 66] (N, am_ts T, (am_u I 66 0 0), L, am_rs r) Q) else (am_E S 195 (d + 2) 0 0 14 [.ref 66, .int x0, .int x1, .int x2] [.long 1, .long 0, .long (Int32.toInt64 x2)] (N, am_ts T, (am_u I 66 0 0), L, am_rs r) Q)) from ?_)
  by_cases hc : x0 = x1
  · rw [if_pos hc] at hq hp ⊢
    refine am_E.go ⟨fun v h9 => v = some (.int (f_179 (-1) (am_u I 66 0 0) L).1) ∧ h9 = (N, am_ts T, (f_179 (-1) (am_u I 66 0 0) L).2.1, (f_179 (-1) (am_u I 66 0 0) L).2.2, am_rs r), s_179 hp.1 ⟨rfl, rfl⟩, ?_⟩
    replace hp := hp.2
    intro v h9 hv
    obtain ⟨rfl, rfl⟩ := hv
    generalize he_q0 : f_179 (-1) (am_u I 66 0 0) L = q0 at hq ⊢
    refine am_E.run [] 2000 (show (True ∧ Q (some (.int q0.1)) (N, am_ts T, q0.2.1, q0.2.2, am_rs r)) from ?_)
    exact ⟨trivial, hq⟩
  · rw [if_neg hc] at hq hp ⊢
    refine am_E.go ⟨fun v h9 => v = some (.int (f_182 (Int32.toInt64 x2) 0 1)) ∧ h9 = (N, am_ts T, (am_u I 66 0 0), L, am_rs r), s_182 ⟨rfl, rfl⟩, ?_⟩
    intro v h9 hv
    obtain ⟨rfl, rfl⟩ := hv
    generalize he_q1 : f_182 (Int32.toInt64 x2) 0 1 = q1 at hq hp ⊢
    refine am_E.run [22, 28] 2000 (show (if q1 = 0 then (am_E S 195 (d + 2) 0 0 22 [.ref 66, .int x0, .int x1, .int x2] [.int (-1), .ref 66] (N, am_ts T, (am_u I 66 0 0), L, am_rs r) Q) else (am_E S 195 (d + 2) 0 0 28 [.ref 66, .int x0, .int x1, .int x2] [.int x0, .ref 66] (N, am_ts T, (am_u I 66 0 0), L, am_rs r) Q)) from ?_)
    by_cases hc : q1 = 0
    · rw [if_pos hc] at hq hp ⊢
      refine am_E.go ⟨fun v h9 => v = some (.int (f_179 (-1) (am_u I 66 0 0) L).1) ∧ h9 = (N, am_ts T, (f_179 (-1) (am_u I 66 0 0) L).2.1, (f_179 (-1) (am_u I 66 0 0) L).2.2, am_rs r), s_179 hp.1 ⟨rfl, rfl⟩, ?_⟩
      replace hp := hp.2
      intro v h9 hv
      obtain ⟨rfl, rfl⟩ := hv
      generalize he_q7 : f_179 (-1) (am_u I 66 0 0) L = q7 at hq ⊢
      refine am_E.run [] 2000 (show (True ∧ Q (some (.int q7.1)) (N, am_ts T, q7.2.1, q7.2.2, am_rs r)) from ?_)
      exact ⟨trivial, hq⟩
    · rw [if_neg hc] at hq hp ⊢
      refine am_E.go ⟨fun v h9 => v = some (.int (f_192 x0 (am_u I 66 0 0))) ∧ h9 = (N, am_ts T, (am_u I 66 0 0), L, am_rs r), s_192 hp.1 ⟨rfl, rfl⟩, ?_⟩
      replace hp := hp.2
      intro v h9 hv
      obtain ⟨rfl, rfl⟩ := hv
      generalize he_q2 : f_192 x0 (am_u I 66 0 0) = q2 at hq hp ⊢
      refine am_E.run [36, 58] 2000 (show (if q2 = 0 then (am_E S 195 (d + 2) 0 0 58 [.ref 66, .int x0, .int x1, .int x2] [.int (-2), .ref 66] (N, am_ts T, (am_u I 66 0 0), L, am_rs r) Q) else (am_E S 195 (d + 2) 0 0 36 [.ref 66, .int x0, .int x1, .int x2] [.int x1, .ref 66] (N, am_ts T, (am_u I 66 0 0), L, am_rs r) Q)) from ?_)
      by_cases hc : q2 = 0
      · rw [if_pos hc] at hq hp ⊢
        refine am_E.go ⟨fun v h9 => v = some (.int (f_179 (-2) (am_u I 66 0 0) L).1) ∧ h9 = (N, am_ts T, (f_179 (-2) (am_u I 66 0 0) L).2.1, (f_179 (-2) (am_u I 66 0 0) L).2.2, am_rs r), s_179 hp.1 ⟨rfl, rfl⟩, ?_⟩
        replace hp := hp.2
        intro v h9 hv
        obtain ⟨rfl, rfl⟩ := hv
        generalize he_q3 : f_179 (-2) (am_u I 66 0 0) L = q3 at hq ⊢
        refine am_E.run [] 2000 (show (True ∧ Q (some (.int q3.1)) (N, am_ts T, q3.2.1, q3.2.2, am_rs r)) from ?_)
        exact ⟨trivial, hq⟩
      · rw [if_neg hc] at hq hp ⊢
        refine am_E.go ⟨fun v h9 => v = some (.int (f_192 x1 (am_u I 66 0 0))) ∧ h9 = (N, am_ts T, (am_u I 66 0 0), L, am_rs r), s_192 hp.1 ⟨rfl, rfl⟩, ?_⟩
        replace hp := hp.2
        intro v h9 hv
        obtain ⟨rfl, rfl⟩ := hv
        generalize he_q4 : f_192 x1 (am_u I 66 0 0) = q4 at hq hp ⊢
        refine am_E.run [49, 58] 2000 (show (if q4 = 0 then (am_E S 195 (d + 2) 0 0 58 [.ref 66, .int x0, .int x1, .int x2] [.int (-2), .ref 66] (N, am_ts T, (am_u I 66 0 0), L, am_rs r) Q) else (am_E S 195 (d + 2) 0 0 49 [.ref 66, .int x0, .int x1, .int x2] [.int x2, .int x1, .int (42 + x0), .ref 66] (N, am_ts T, (am_u I 66 0 0), L, am_rs r) Q)) from ?_)
        by_cases hc : q4 = 0
        · rw [if_pos hc] at hq hp ⊢
          refine am_E.go ⟨fun v h9 => v = some (.int (f_179 (-2) (am_u I 66 0 0) L).1) ∧ h9 = (N, am_ts T, (f_179 (-2) (am_u I 66 0 0) L).2.1, (f_179 (-2) (am_u I 66 0 0) L).2.2, am_rs r), s_179 hp.1 ⟨rfl, rfl⟩, ?_⟩
          replace hp := hp.2
          intro v h9 hv
          obtain ⟨rfl, rfl⟩ := hv
          generalize he_q5 : f_179 (-2) (am_u I 66 0 0) L = q5 at hq ⊢
          refine am_E.run [] 2000 (show (True ∧ Q (some (.int q5.1)) (N, am_ts T, q5.2.1, q5.2.2, am_rs r)) from ?_)
          exact ⟨trivial, hq⟩
        · rw [if_neg hc] at hq hp ⊢
          refine am_E.go ⟨fun v h9 => v = some (.int (f_194 (42 + x0) x1 x2 (am_u I 66 0 0) L).1) ∧ h9 = (N, am_ts T, (f_194 (42 + x0) x1 x2 (am_u I 66 0 0) L).2.1, (f_194 (42 + x0) x1 x2 (am_u I 66 0 0) L).2.2, am_rs r), s_194 hp.1 ⟨rfl, rfl⟩, ?_⟩
          replace hp := hp.2
          intro v h9 hv
          obtain ⟨rfl, rfl⟩ := hv
          generalize he_q6 : f_194 (42 + x0) x1 x2 (am_u I 66 0 0) L = q6 at hq ⊢
          refine am_E.run [] 2000 (show (True ∧ Q (some (.int q6.1)) (N, am_ts T, q6.2.1, q6.2.2, am_rs r)) from ?_)
          exact ⟨trivial, hq⟩
/-- KeyKeepersModel.vote(II)I -/
def f_196 (x0 : Int32) (x1 : Int32) (I : Nat → Nat → Int32) (L : Nat → Nat → Int64) : Int32 × (Nat → Nat → Int32) × (Nat → Nat → Int64) :=
  let q0 := f_182 (Int32.toInt64 x1) 0 1;
  if q0 = 0 then
    let q4 := f_179 (-1) (am_u I 66 0 0) L;
    (q4.1, q4.2.1, q4.2.2)
  else
    let q1 := f_192 x0 (am_u I 66 0 0);
    if q1 = 0 then
      let q2 := f_179 (-2) (am_u I 66 0 0) L;
      (q2.1, q2.2.1, q2.2.2)
    else
      let q3 := f_188 (50 + x0) x1 (am_u I 66 0 0) L;
      (q3.1, q3.2.1, q3.2.2)
def p_196 (x0 : Int32) (x1 : Int32) (I : Nat → Nat → Int32) (L : Nat → Nat → Int64) : Prop :=
  (let q0 := f_182 (Int32.toInt64 x1) 0 1;
    if q0 = 0 then
      p_179 (-1) (am_u I 66 0 0) L ∧
      (let q4 := f_179 (-1) (am_u I 66 0 0) L;
        True)
    else
      p_192 x0 (am_u I 66 0 0) ∧
      (let q1 := f_192 x0 (am_u I 66 0 0);
        if q1 = 0 then
          p_179 (-2) (am_u I 66 0 0) L ∧
          (let q2 := f_179 (-2) (am_u I 66 0 0) L;
            True)
        else
          p_188 (50 + x0) x1 (am_u I 66 0 0) L ∧
          (let q3 := f_188 (50 + x0) x1 (am_u I 66 0 0) L;
            True)))
set_option maxRecDepth 100000 in
theorem s_196 {S : am_S} {d N : Nat} {T : Nat → Nat × Nat} {I : Nat → Nat → Int32} {L : Nat → Nat → Int64} {r : Nat → Nat → Option Nat} {Q : am_Q} {x0 : Int32} {x1 : Int32} (hp : p_196 x0 x1 I L) (hq : Q (some (.int (f_196 x0 x1 I L).1)) (N, am_ts T, (f_196 x0 x1 I L).2.1, (f_196 x0 x1 I L).2.2, am_rs r)) : am_E S 196 (d + 2) 0 0 0 [.ref 66, .int x0, .int x1] [] (N, am_ts T, I, L, am_rs r) Q := by
  unfold f_196 at hq
  unfold p_196 at hp
  try dsimp only at hq hp
  refine am_E.run [9] 2000 (show (am_E S 196 (d + 2) 0 0 9 [.ref 66, .int x0, .int x1] [.long 1, .long 0, .long (Int32.toInt64 x1)] (N, am_ts T, (am_u I 66 0 0), L, am_rs r) Q) from ?_)
  refine am_E.go ⟨fun v h9 => v = some (.int (f_182 (Int32.toInt64 x1) 0 1)) ∧ h9 = (N, am_ts T, (am_u I 66 0 0), L, am_rs r), s_182 ⟨rfl, rfl⟩, ?_⟩
  intro v h9 hv
  obtain ⟨rfl, rfl⟩ := hv
  generalize he_q0 : f_182 (Int32.toInt64 x1) 0 1 = q0 at hq hp ⊢
  refine am_E.run [17, 23] 2000 (show (if q0 = 0 then (am_E S 196 (d + 2) 0 0 17 [.ref 66, .int x0, .int x1] [.int (-1), .ref 66] (N, am_ts T, (am_u I 66 0 0), L, am_rs r) Q) else (am_E S 196 (d + 2) 0 0 23 [.ref 66, .int x0, .int x1] [.int x0, .ref 66] (N, am_ts T, (am_u I 66 0 0), L, am_rs r) Q)) from ?_)
  by_cases hc : q0 = 0
  · rw [if_pos hc] at hq hp ⊢
    refine am_E.go ⟨fun v h9 => v = some (.int (f_179 (-1) (am_u I 66 0 0) L).1) ∧ h9 = (N, am_ts T, (f_179 (-1) (am_u I 66 0 0) L).2.1, (f_179 (-1) (am_u I 66 0 0) L).2.2, am_rs r), s_179 hp.1 ⟨rfl, rfl⟩, ?_⟩
    replace hp := hp.2
    intro v h9 hv
    obtain ⟨rfl, rfl⟩ := hv
    generalize he_q4 : f_179 (-1) (am_u I 66 0 0) L = q4 at hq ⊢
    refine am_E.run [] 2000 (show (True ∧ Q (some (.int q4.1)) (N, am_ts T, q4.2.1, q4.2.2, am_rs r)) from ?_)
    exact ⟨trivial, hq⟩
  · rw [if_neg hc] at hq hp ⊢
    refine am_E.go ⟨fun v h9 => v = some (.int (f_192 x0 (am_u I 66 0 0))) ∧ h9 = (N, am_ts T, (am_u I 66 0 0), L, am_rs r), s_192 hp.1 ⟨rfl, rfl⟩, ?_⟩
    replace hp := hp.2
    intro v h9 hv
    obtain ⟨rfl, rfl⟩ := hv
    generalize he_q1 : f_192 x0 (am_u I 66 0 0) = q1 at hq hp ⊢
    refine am_E.run [35, 44] 2000 (show (if q1 = 0 then (am_E S 196 (d + 2) 0 0 44 [.ref 66, .int x0, .int x1] [.int (-2), .ref 66] (N, am_ts T, (am_u I 66 0 0), L, am_rs r) Q) else (am_E S 196 (d + 2) 0 0 35 [.ref 66, .int x0, .int x1] [.int x1, .int (50 + x0), .ref 66] (N, am_ts T, (am_u I 66 0 0), L, am_rs r) Q)) from ?_)
    by_cases hc : q1 = 0
    · rw [if_pos hc] at hq hp ⊢
      refine am_E.go ⟨fun v h9 => v = some (.int (f_179 (-2) (am_u I 66 0 0) L).1) ∧ h9 = (N, am_ts T, (f_179 (-2) (am_u I 66 0 0) L).2.1, (f_179 (-2) (am_u I 66 0 0) L).2.2, am_rs r), s_179 hp.1 ⟨rfl, rfl⟩, ?_⟩
      replace hp := hp.2
      intro v h9 hv
      obtain ⟨rfl, rfl⟩ := hv
      generalize he_q2 : f_179 (-2) (am_u I 66 0 0) L = q2 at hq ⊢
      refine am_E.run [] 2000 (show (True ∧ Q (some (.int q2.1)) (N, am_ts T, q2.2.1, q2.2.2, am_rs r)) from ?_)
      exact ⟨trivial, hq⟩
    · rw [if_neg hc] at hq hp ⊢
      refine am_E.go ⟨fun v h9 => v = some (.int (f_188 (50 + x0) x1 (am_u I 66 0 0) L).1) ∧ h9 = (N, am_ts T, (f_188 (50 + x0) x1 (am_u I 66 0 0) L).2.1, (f_188 (50 + x0) x1 (am_u I 66 0 0) L).2.2, am_rs r), s_188 hp.1 ⟨rfl, rfl⟩, ?_⟩
      replace hp := hp.2
      intro v h9 hv
      obtain ⟨rfl, rfl⟩ := hv
      generalize he_q3 : f_188 (50 + x0) x1 (am_u I 66 0 0) L = q3 at hq ⊢
      refine am_E.run [] 2000 (show (True ∧ Q (some (.int q3.1)) (N, am_ts T, q3.2.1, q3.2.2, am_rs r)) from ?_)
      exact ⟨trivial, hq⟩
/-- KeyKeepersModel.terms(II)I -/
def f_197 (x0 : Int32) (x1 : Int32) (I : Nat → Nat → Int32) (L : Nat → Nat → Int64) : Int32 × (Nat → Nat → Int32) × (Nat → Nat → Int64) :=
  if x0 = 0 then
    let q10 := f_182 (Int32.toInt64 x1) 0 9999;
    if q10 = 0 then
      let q12 := f_179 (-1) (am_u I 66 0 0) L;
      (q12.1, q12.2.1, q12.2.2)
    else
      let q11 := f_188 (5 + x0) x1 (am_u (am_u I 66 0 0) 66 8 0) L;
      (q11.1, q11.2.1, q11.2.2)
  else
    if x0 = 1 then
      let q7 := f_182 (Int32.toInt64 x1) 1 6;
      if q7 = 0 then
        let q9 := f_179 (-1) (am_u I 66 0 0) L;
        (q9.1, q9.2.1, q9.2.2)
      else
        let q8 := f_188 (5 + x0) x1 (am_u (am_u I 66 0 0) 66 8 0) L;
        (q8.1, q8.2.1, q8.2.2)
    else
      if x0 = 2 then
        let q4 := f_182 (Int32.toInt64 x1) 0 10;
        if q4 = 0 then
          let q6 := f_179 (-1) (am_u I 66 0 0) L;
          (q6.1, q6.2.1, q6.2.2)
        else
          let q5 := f_188 (5 + x0) x1 (am_u (am_u I 66 0 0) 66 8 0) L;
          (q5.1, q5.2.1, q5.2.2)
      else
        if x0 = 3 then
          let q1 := f_182 (Int32.toInt64 x1) 0 9;
          if q1 = 0 then
            let q2 := f_179 (-1) (am_u I 66 0 0) L;
            (q2.1, q2.2.1, q2.2.2)
          else
            let q3 := f_188 (5 + x0) x1 (am_u (am_u I 66 0 0) 66 8 0) L;
            (q3.1, q3.2.1, q3.2.2)
        else
          let q0 := f_179 (-1) (am_u I 66 0 0) L;
          (q0.1, q0.2.1, q0.2.2)
def p_197 (x0 : Int32) (x1 : Int32) (I : Nat → Nat → Int32) (L : Nat → Nat → Int64) : Prop :=
  if x0 = 0 then
    (let q10 := f_182 (Int32.toInt64 x1) 0 9999;
      if q10 = 0 then
        p_179 (-1) (am_u I 66 0 0) L ∧
        (let q12 := f_179 (-1) (am_u I 66 0 0) L;
          True)
      else
        p_188 (5 + x0) x1 (am_u (am_u I 66 0 0) 66 8 0) L ∧
        (let q11 := f_188 (5 + x0) x1 (am_u (am_u I 66 0 0) 66 8 0) L;
          True))
  else
    if x0 = 1 then
      (let q7 := f_182 (Int32.toInt64 x1) 1 6;
        if q7 = 0 then
          p_179 (-1) (am_u I 66 0 0) L ∧
          (let q9 := f_179 (-1) (am_u I 66 0 0) L;
            True)
        else
          p_188 (5 + x0) x1 (am_u (am_u I 66 0 0) 66 8 0) L ∧
          (let q8 := f_188 (5 + x0) x1 (am_u (am_u I 66 0 0) 66 8 0) L;
            True))
    else
      if x0 = 2 then
        (let q4 := f_182 (Int32.toInt64 x1) 0 10;
          if q4 = 0 then
            p_179 (-1) (am_u I 66 0 0) L ∧
            (let q6 := f_179 (-1) (am_u I 66 0 0) L;
              True)
          else
            p_188 (5 + x0) x1 (am_u (am_u I 66 0 0) 66 8 0) L ∧
            (let q5 := f_188 (5 + x0) x1 (am_u (am_u I 66 0 0) 66 8 0) L;
              True))
      else
        if x0 = 3 then
          (let q1 := f_182 (Int32.toInt64 x1) 0 9;
            if q1 = 0 then
              p_179 (-1) (am_u I 66 0 0) L ∧
              (let q2 := f_179 (-1) (am_u I 66 0 0) L;
                True)
            else
              p_188 (5 + x0) x1 (am_u (am_u I 66 0 0) 66 8 0) L ∧
              (let q3 := f_188 (5 + x0) x1 (am_u (am_u I 66 0 0) 66 8 0) L;
                True))
        else
          p_179 (-1) (am_u I 66 0 0) L ∧
          (let q0 := f_179 (-1) (am_u I 66 0 0) L;
            True)
set_option maxRecDepth 100000 in
theorem s_197 {S : am_S} {d N : Nat} {T : Nat → Nat × Nat} {I : Nat → Nat → Int32} {L : Nat → Nat → Int64} {r : Nat → Nat → Option Nat} {Q : am_Q} {x0 : Int32} {x1 : Int32} (hp : p_197 x0 x1 I L) (hq : Q (some (.int (f_197 x0 x1 I L).1)) (N, am_ts T, (f_197 x0 x1 I L).2.1, (f_197 x0 x1 I L).2.2, am_rs r)) : am_E S 197 (d + 1) 0 0 0 [.ref 66, .int x0, .int x1, am_jk] [] (N, am_ts T, I, L, am_rs r) Q := by
  unfold f_197 at hq
  unfold p_197 at hp
  try dsimp only at hq hp
  refine am_E.run [15, 32, 49, 66, 84] 2000 (show (if x0 = 0 then (am_E S 197 (d + 1) 0 0 15 [.ref 66, .int x0, .int x1, am_jk] [.long 9999, .long 0, .long (Int32.toInt64 x1)] (N, am_ts T, (am_u I 66 0 0), L, am_rs r) Q) else (if x0 = 1 then (am_E S 197 (d + 1) 0 0 32 [.ref 66, .int x0, .int x1, am_jk] [.long 6, .long 1, .long (Int32.toInt64 x1)] (N, am_ts T, (am_u I 66 0 0), L, am_rs r) Q) else (if x0 = 2 then (am_E S 197 (d + 1) 0 0 49 [.ref 66, .int x0, .int x1, am_jk] [.long 10, .long 0, .long (Int32.toInt64 x1)] (N, am_ts T, (am_u I 66 0 0), L, am_rs r) Q) else (if x0 = 3 then (am_E S 197 (d + 1) 0 0 66 [.ref 66, .int x0, .int x1, am_jk] [.long 9, .long 0, .long (Int32.toInt64 x1)] (N, am_ts T, (am_u I 66 0 0), L, am_rs r) Q) else (am_E S 197 (d + 1) 0 0 84 [.ref 66, .int x0, .int x1, .int 0] [.int (-1), .ref 66] (N, am_ts T, (am_u I 66 0 0), L, am_rs r) Q))))) from ?_)
  by_cases hc : x0 = 0
  · rw [if_pos hc] at hq hp ⊢
    refine am_E.go ⟨fun v h9 => v = some (.int (f_182 (Int32.toInt64 x1) 0 9999)) ∧ h9 = (N, am_ts T, (am_u I 66 0 0), L, am_rs r), s_182 ⟨rfl, rfl⟩, ?_⟩
    intro v h9 hv
    obtain ⟨rfl, rfl⟩ := hv
    generalize he_q10 : f_182 (Int32.toInt64 x1) 0 9999 = q10 at hq hp ⊢
    refine am_E.run [84, 98] 2000 (show (if q10 = 0 then (am_E S 197 (d + 1) 0 0 84 [.ref 66, .int x0, .int x1, .int q10] [.int (-1), .ref 66] (N, am_ts T, (am_u I 66 0 0), L, am_rs r) Q) else (am_E S 197 (d + 1) 0 0 98 [.ref 66, .int x0, .int x1, .int q10] [.int x1, .int (5 + x0), .ref 66] (N, am_ts T, (am_u (am_u I 66 0 0) 66 8 0), L, am_rs r) Q)) from ?_)
    by_cases hc : q10 = 0
    · rw [if_pos hc] at hq hp ⊢
      refine am_E.go ⟨fun v h9 => v = some (.int (f_179 (-1) (am_u I 66 0 0) L).1) ∧ h9 = (N, am_ts T, (f_179 (-1) (am_u I 66 0 0) L).2.1, (f_179 (-1) (am_u I 66 0 0) L).2.2, am_rs r), s_179 hp.1 ⟨rfl, rfl⟩, ?_⟩
      replace hp := hp.2
      intro v h9 hv
      obtain ⟨rfl, rfl⟩ := hv
      generalize he_q12 : f_179 (-1) (am_u I 66 0 0) L = q12 at hq ⊢
      refine am_E.run [] 2000 (show (True ∧ Q (some (.int q12.1)) (N, am_ts T, q12.2.1, q12.2.2, am_rs r)) from ?_)
      exact ⟨trivial, hq⟩
    · rw [if_neg hc] at hq hp ⊢
      refine am_E.go ⟨fun v h9 => v = some (.int (f_188 (5 + x0) x1 (am_u (am_u I 66 0 0) 66 8 0) L).1) ∧ h9 = (N, am_ts T, (f_188 (5 + x0) x1 (am_u (am_u I 66 0 0) 66 8 0) L).2.1, (f_188 (5 + x0) x1 (am_u (am_u I 66 0 0) 66 8 0) L).2.2, am_rs r), s_188 hp.1 ⟨rfl, rfl⟩, ?_⟩
      replace hp := hp.2
      intro v h9 hv
      obtain ⟨rfl, rfl⟩ := hv
      generalize he_q11 : f_188 (5 + x0) x1 (am_u (am_u I 66 0 0) 66 8 0) L = q11 at hq ⊢
      refine am_E.run [] 2000 (show (True ∧ Q (some (.int q11.1)) (N, am_ts T, q11.2.1, q11.2.2, am_rs r)) from ?_)
      exact ⟨trivial, hq⟩
  · rw [if_neg hc] at hq hp ⊢
    by_cases hc : x0 = 1
    · rw [if_pos hc] at hq hp ⊢
      refine am_E.go ⟨fun v h9 => v = some (.int (f_182 (Int32.toInt64 x1) 1 6)) ∧ h9 = (N, am_ts T, (am_u I 66 0 0), L, am_rs r), s_182 ⟨rfl, rfl⟩, ?_⟩
      intro v h9 hv
      obtain ⟨rfl, rfl⟩ := hv
      generalize he_q7 : f_182 (Int32.toInt64 x1) 1 6 = q7 at hq hp ⊢
      refine am_E.run [84, 98] 2000 (show (if q7 = 0 then (am_E S 197 (d + 1) 0 0 84 [.ref 66, .int x0, .int x1, .int q7] [.int (-1), .ref 66] (N, am_ts T, (am_u I 66 0 0), L, am_rs r) Q) else (am_E S 197 (d + 1) 0 0 98 [.ref 66, .int x0, .int x1, .int q7] [.int x1, .int (5 + x0), .ref 66] (N, am_ts T, (am_u (am_u I 66 0 0) 66 8 0), L, am_rs r) Q)) from ?_)
      by_cases hc : q7 = 0
      · rw [if_pos hc] at hq hp ⊢
        refine am_E.go ⟨fun v h9 => v = some (.int (f_179 (-1) (am_u I 66 0 0) L).1) ∧ h9 = (N, am_ts T, (f_179 (-1) (am_u I 66 0 0) L).2.1, (f_179 (-1) (am_u I 66 0 0) L).2.2, am_rs r), s_179 hp.1 ⟨rfl, rfl⟩, ?_⟩
        replace hp := hp.2
        intro v h9 hv
        obtain ⟨rfl, rfl⟩ := hv
        generalize he_q9 : f_179 (-1) (am_u I 66 0 0) L = q9 at hq ⊢
        refine am_E.run [] 2000 (show (True ∧ Q (some (.int q9.1)) (N, am_ts T, q9.2.1, q9.2.2, am_rs r)) from ?_)
        exact ⟨trivial, hq⟩
      · rw [if_neg hc] at hq hp ⊢
        refine am_E.go ⟨fun v h9 => v = some (.int (f_188 (5 + x0) x1 (am_u (am_u I 66 0 0) 66 8 0) L).1) ∧ h9 = (N, am_ts T, (f_188 (5 + x0) x1 (am_u (am_u I 66 0 0) 66 8 0) L).2.1, (f_188 (5 + x0) x1 (am_u (am_u I 66 0 0) 66 8 0) L).2.2, am_rs r), s_188 hp.1 ⟨rfl, rfl⟩, ?_⟩
        replace hp := hp.2
        intro v h9 hv
        obtain ⟨rfl, rfl⟩ := hv
        generalize he_q8 : f_188 (5 + x0) x1 (am_u (am_u I 66 0 0) 66 8 0) L = q8 at hq ⊢
        refine am_E.run [] 2000 (show (True ∧ Q (some (.int q8.1)) (N, am_ts T, q8.2.1, q8.2.2, am_rs r)) from ?_)
        exact ⟨trivial, hq⟩
    · rw [if_neg hc] at hq hp ⊢
      by_cases hc : x0 = 2
      · rw [if_pos hc] at hq hp ⊢
        refine am_E.go ⟨fun v h9 => v = some (.int (f_182 (Int32.toInt64 x1) 0 10)) ∧ h9 = (N, am_ts T, (am_u I 66 0 0), L, am_rs r), s_182 ⟨rfl, rfl⟩, ?_⟩
        intro v h9 hv
        obtain ⟨rfl, rfl⟩ := hv
        generalize he_q4 : f_182 (Int32.toInt64 x1) 0 10 = q4 at hq hp ⊢
        refine am_E.run [84, 98] 2000 (show (if q4 = 0 then (am_E S 197 (d + 1) 0 0 84 [.ref 66, .int x0, .int x1, .int q4] [.int (-1), .ref 66] (N, am_ts T, (am_u I 66 0 0), L, am_rs r) Q) else (am_E S 197 (d + 1) 0 0 98 [.ref 66, .int x0, .int x1, .int q4] [.int x1, .int (5 + x0), .ref 66] (N, am_ts T, (am_u (am_u I 66 0 0) 66 8 0), L, am_rs r) Q)) from ?_)
        by_cases hc : q4 = 0
        · rw [if_pos hc] at hq hp ⊢
          refine am_E.go ⟨fun v h9 => v = some (.int (f_179 (-1) (am_u I 66 0 0) L).1) ∧ h9 = (N, am_ts T, (f_179 (-1) (am_u I 66 0 0) L).2.1, (f_179 (-1) (am_u I 66 0 0) L).2.2, am_rs r), s_179 hp.1 ⟨rfl, rfl⟩, ?_⟩
          replace hp := hp.2
          intro v h9 hv
          obtain ⟨rfl, rfl⟩ := hv
          generalize he_q6 : f_179 (-1) (am_u I 66 0 0) L = q6 at hq ⊢
          refine am_E.run [] 2000 (show (True ∧ Q (some (.int q6.1)) (N, am_ts T, q6.2.1, q6.2.2, am_rs r)) from ?_)
          exact ⟨trivial, hq⟩
        · rw [if_neg hc] at hq hp ⊢
          refine am_E.go ⟨fun v h9 => v = some (.int (f_188 (5 + x0) x1 (am_u (am_u I 66 0 0) 66 8 0) L).1) ∧ h9 = (N, am_ts T, (f_188 (5 + x0) x1 (am_u (am_u I 66 0 0) 66 8 0) L).2.1, (f_188 (5 + x0) x1 (am_u (am_u I 66 0 0) 66 8 0) L).2.2, am_rs r), s_188 hp.1 ⟨rfl, rfl⟩, ?_⟩
          replace hp := hp.2
          intro v h9 hv
          obtain ⟨rfl, rfl⟩ := hv
          generalize he_q5 : f_188 (5 + x0) x1 (am_u (am_u I 66 0 0) 66 8 0) L = q5 at hq ⊢
          refine am_E.run [] 2000 (show (True ∧ Q (some (.int q5.1)) (N, am_ts T, q5.2.1, q5.2.2, am_rs r)) from ?_)
          exact ⟨trivial, hq⟩
      · rw [if_neg hc] at hq hp ⊢
        by_cases hc : x0 = 3
        · rw [if_pos hc] at hq hp ⊢
          refine am_E.go ⟨fun v h9 => v = some (.int (f_182 (Int32.toInt64 x1) 0 9)) ∧ h9 = (N, am_ts T, (am_u I 66 0 0), L, am_rs r), s_182 ⟨rfl, rfl⟩, ?_⟩
          intro v h9 hv
          obtain ⟨rfl, rfl⟩ := hv
          generalize he_q1 : f_182 (Int32.toInt64 x1) 0 9 = q1 at hq hp ⊢
          refine am_E.run [84, 98] 2000 (show (if q1 = 0 then (am_E S 197 (d + 1) 0 0 84 [.ref 66, .int x0, .int x1, .int 0] [.int (-1), .ref 66] (N, am_ts T, (am_u I 66 0 0), L, am_rs r) Q) else (am_E S 197 (d + 1) 0 0 98 [.ref 66, .int x0, .int x1, .int 1] [.int x1, .int (5 + x0), .ref 66] (N, am_ts T, (am_u (am_u I 66 0 0) 66 8 0), L, am_rs r) Q)) from ?_)
          by_cases hc : q1 = 0
          · rw [if_pos hc] at hq hp ⊢
            refine am_E.go ⟨fun v h9 => v = some (.int (f_179 (-1) (am_u I 66 0 0) L).1) ∧ h9 = (N, am_ts T, (f_179 (-1) (am_u I 66 0 0) L).2.1, (f_179 (-1) (am_u I 66 0 0) L).2.2, am_rs r), s_179 hp.1 ⟨rfl, rfl⟩, ?_⟩
            replace hp := hp.2
            intro v h9 hv
            obtain ⟨rfl, rfl⟩ := hv
            generalize he_q2 : f_179 (-1) (am_u I 66 0 0) L = q2 at hq ⊢
            refine am_E.run [] 2000 (show (True ∧ Q (some (.int q2.1)) (N, am_ts T, q2.2.1, q2.2.2, am_rs r)) from ?_)
            exact ⟨trivial, hq⟩
          · rw [if_neg hc] at hq hp ⊢
            refine am_E.go ⟨fun v h9 => v = some (.int (f_188 (5 + x0) x1 (am_u (am_u I 66 0 0) 66 8 0) L).1) ∧ h9 = (N, am_ts T, (f_188 (5 + x0) x1 (am_u (am_u I 66 0 0) 66 8 0) L).2.1, (f_188 (5 + x0) x1 (am_u (am_u I 66 0 0) 66 8 0) L).2.2, am_rs r), s_188 hp.1 ⟨rfl, rfl⟩, ?_⟩
            replace hp := hp.2
            intro v h9 hv
            obtain ⟨rfl, rfl⟩ := hv
            generalize he_q3 : f_188 (5 + x0) x1 (am_u (am_u I 66 0 0) 66 8 0) L = q3 at hq ⊢
            refine am_E.run [] 2000 (show (True ∧ Q (some (.int q3.1)) (N, am_ts T, q3.2.1, q3.2.2, am_rs r)) from ?_)
            exact ⟨trivial, hq⟩
        · rw [if_neg hc] at hq hp ⊢
          refine am_E.go ⟨fun v h9 => v = some (.int (f_179 (-1) (am_u I 66 0 0) L).1) ∧ h9 = (N, am_ts T, (f_179 (-1) (am_u I 66 0 0) L).2.1, (f_179 (-1) (am_u I 66 0 0) L).2.2, am_rs r), s_179 hp.1 ⟨rfl, rfl⟩, ?_⟩
          replace hp := hp.2
          intro v h9 hv
          obtain ⟨rfl, rfl⟩ := hv
          generalize he_q0 : f_179 (-1) (am_u I 66 0 0) L = q0 at hq ⊢
          refine am_E.run [] 2000 (show (True ∧ Q (some (.int q0.1)) (N, am_ts T, q0.2.1, q0.2.2, am_rs r)) from ?_)
          exact ⟨trivial, hq⟩
