/-- KeyKeepersModel.behindDoor(II)I -/
def f_257 (x0 : Int32) (x1 : Int32) (I : Nat → Nat → Int32) : Int32 :=
  let q0 := f_250 x1 0 I;
  if q0 = x0 then
    let q1 := f_250 x1 1 I;
    q1
  else
    q0
def p_257 (x0 : Int32) (x1 : Int32) (I : Nat → Nat → Int32) : Prop :=
  p_250 x1 0 I ∧
  (let q0 := f_250 x1 0 I;
    if q0 = x0 then
      p_250 x1 1 I ∧
      (let q1 := f_250 x1 1 I;
        True)
    else
      p_250 x1 0 I ∧
      True)
set_option maxRecDepth 100000 in
theorem s_257 {S : am_S} {d N : Nat} {T : Nat → Nat × Nat} {I : Nat → Nat → Int32} {L : Nat → Nat → Int64} {r : Nat → Nat → Option Nat} {Q : am_Q} {x0 : Int32} {x1 : Int32} (hp : p_257 x0 x1 I) (hq : Q (some (.int (f_257 x0 x1 I))) (N, am_ts T, I, L, am_rs r)) : am_E S 257 (d + 1) 0 0 0 [.ref 66, .int x0, .int x1] [] (N, am_ts T, I, L, am_rs r) Q := by
  unfold f_257 at hq
  unfold p_257 at hp
  try dsimp only at hq hp
  refine am_E.run [3] 2000 (show (am_E S 257 (d + 1) 0 0 3 [.ref 66, .int x0, .int x1] [.int 0, .int x1, .ref 66] (N, am_ts T, I, L, am_rs r) Q) from ?_)
  refine am_E.go ⟨fun v h9 => v = some (.int (f_250 x1 0 I)) ∧ h9 = (N, am_ts T, I, L, am_rs r), s_250 hp.1 ⟨rfl, rfl⟩, ?_⟩
  replace hp := hp.2
  intro v h9 hv
  obtain ⟨rfl, rfl⟩ := hv
  generalize he_q0 : f_250 x1 0 I = q0 at hq hp ⊢
  refine am_E.run [13, 22] 2000 (show (if q0 = x0 then (am_E S 257 (d + 1) 0 0 13 [.ref 66, .int x0, .int x1] [.int 1, .int x1, .ref 66] (N, am_ts T, I, L, am_rs r) Q) else (am_E S 257 (d + 1) 0 0 22 [.ref 66, .int x0, .int x1] [.int 0, .int x1, .ref 66] (N, am_ts T, I, L, am_rs r) Q)) from ?_)
  by_cases hc : q0 = x0
  · rw [if_pos hc] at hq hp ⊢
    refine am_E.go ⟨fun v h9 => v = some (.int (f_250 x1 1 I)) ∧ h9 = (N, am_ts T, I, L, am_rs r), s_250 hp.1 ⟨rfl, rfl⟩, ?_⟩
    replace hp := hp.2
    intro v h9 hv
    obtain ⟨rfl, rfl⟩ := hv
    generalize he_q1 : f_250 x1 1 I = q1 at hq ⊢
    refine am_E.run [] 2000 (show (True ∧ Q (some (.int q1)) (N, am_ts T, I, L, am_rs r)) from ?_)
    exact ⟨trivial, hq⟩
  · rw [if_neg hc] at hq hp ⊢
    refine am_E.go ⟨fun v h9 => v = some (.int (f_250 x1 0 I)) ∧ h9 = (N, am_ts T, I, L, am_rs r), s_250 hp.1 ⟨rfl, rfl⟩, ?_⟩
    replace hp := hp.2
    intro v h9 hv
    obtain ⟨rfl, rfl⟩ := hv
    rw [he_q0]
    refine am_E.run [] 2000 (show (True ∧ Q (some (.int q0)) (N, am_ts T, I, L, am_rs r)) from ?_)
    exact ⟨trivial, hq⟩
def lp_263_4 : Nat → Int32 → Int32 → (Nat → Nat → Int32) → (Nat → Nat → Int64) → Nat × Int32 × Int32 × Int32
  | 0, v1, v2, I, L => (0, 0, v1, v2)
  | n + 1, v1, v2, I, L =>
    if (I 68 1) ≤ v2 then
      (0, 0, v1, v2)
    else
      if (I 68 (Int32.toNatClampNeg (10 + v2))) = 0 then
        lp_263_4 n (v1 + 0) (v2 + 1) I L
      else
        lp_263_4 n (v1 + 1) (v2 + 1) I L
def lq_263_4 : Nat → Int32 → Int32 → (Nat → Nat → Int32) → (Nat → Nat → Int64) → Prop
  | 0, v1, v2, I, L => False
  | n + 1, v1, v2, I, L =>
    if (I 68 1) ≤ v2 then
      True
    else
      ¬ ((10 + v2) < 0 ∨ 5510 ≤ Int32.toNatClampNeg (10 + v2)) ∧
      if (I 68 (Int32.toNatClampNeg (10 + v2))) = 0 then
        lq_263_4 n (v1 + 0) (v2 + 1) I L
      else
        lq_263_4 n (v1 + 1) (v2 + 1) I L
set_option maxRecDepth 100000 in
theorem sl_263_4 {S : am_S} {d N : Nat} {T : Nat → Nat × Nat} {r : Nat → Nat → Option Nat} {Q : am_Q} : ∀ (n : Nat) {v1 : Int32} {v2 : Int32} {I : Nat → Nat → Int32} {L : Nat → Nat → Int64} (hp : lq_263_4 n v1 v2 I L) (h0 : (lp_263_4 n v1 v2 I L).1 = 0 → am_E S 263 (d + 0) 0 0 40 [.ref 66, .int (lp_263_4 n v1 v2 I L).2.2.1, .int (lp_263_4 n v1 v2 I L).2.2.2] [] (N, am_ts T, I, L, am_rs r) Q), am_E S 263 (d + 0) 0 0 4 [.ref 66, .int v1, .int v2] [] (N, am_ts T, I, L, am_rs r) Q
  | 0, _, _, _, _, hp, _ => hp.elim
  | n + 1, v1, v2, I, L, hp, h0 => by
    have ih := @sl_263_4 S d N T r Q n
    unfold lp_263_4 at h0
    unfold lq_263_4 at hp
    try dsimp only at h0 hp
    refine am_E.run [4, 40] 2000 (show (if (I 68 1) ≤ v2 then (am_E S 263 (d + 0) 0 0 40 [.ref 66, .int v1, .int v2] [] (N, am_ts T, I, L, am_rs r) Q) else (if (10 + v2) < 0 ∨ 5510 ≤ Int32.toNatClampNeg (10 + v2) then False else (if (I 68 (Int32.toNatClampNeg (10 + v2))) = 0 then (am_E S 263 (d + 0) 0 0 4 [.ref 66, .int (v1 + 0), .int (v2 + 1)] [] (N, am_ts T, I, L, am_rs r) Q) else (am_E S 263 (d + 0) 0 0 4 [.ref 66, .int (v1 + 1), .int (v2 + 1)] [] (N, am_ts T, I, L, am_rs r) Q)))) from ?_)
    by_cases hc : (I 68 1) ≤ v2
    · rw [if_pos hc] at h0 hp ⊢
      exact h0 rfl
    · rw [if_neg hc] at h0 hp ⊢
      rw [if_neg hp.1]
      replace hp := hp.2
      by_cases hc : (I 68 (Int32.toNatClampNeg (10 + v2))) = 0
      · rw [if_pos hc] at h0 hp ⊢
        exact ih hp h0
      · rw [if_neg hc] at h0 hp ⊢
        exact ih hp h0
/-- KeyKeepersModel.inside()I -/
def f_263 (I : Nat → Nat → Int32) (L : Nat → Nat → Int64) : Int32 :=
  let q0 := lp_263_4 am_fu 0 0 I L;
  q0.2.2.1
def p_263 (I : Nat → Nat → Int32) (L : Nat → Nat → Int64) : Prop :=
  lq_263_4 am_fu 0 0 I L ∧
  (let q0 := lp_263_4 am_fu 0 0 I L;
    True)
set_option maxRecDepth 100000 in
theorem s_263 {S : am_S} {d N : Nat} {T : Nat → Nat × Nat} {I : Nat → Nat → Int32} {L : Nat → Nat → Int64} {r : Nat → Nat → Option Nat} {Q : am_Q} (hp : p_263 I L) (hq : Q (some (.int (f_263 I L))) (N, am_ts T, I, L, am_rs r)) : am_E S 263 (d + 0) 0 0 0 [.ref 66, am_jk, am_jk] [] (N, am_ts T, I, L, am_rs r) Q := by
  unfold f_263 at hq
  unfold p_263 at hp
  try dsimp only at hq hp
  refine am_E.run [4] 2000 (show (am_E S 263 (d + 0) 0 0 4 [.ref 66, .int 0, .int 0] [] (N, am_ts T, I, L, am_rs r) Q) from ?_)
  refine sl_263_4 am_fu hp.1 (fun hk => ?_)
  · replace hp := hp.2
    generalize he_q0 : lp_263_4 am_fu 0 0 I L = q0 at hq hp hk ⊢
    refine am_E.run [] 2000 (show (True ∧ Q (some (.int q0.2.2.1)) (N, am_ts T, I, L, am_rs r)) from ?_)
    exact ⟨trivial, hq⟩
def lp_268_12 : Nat → Int32 → Int32 → Int32 → (Nat → Nat → Int32) → (Nat → Nat → Int64) → Nat × Int32 × Int32 × Int32
  | 0, v1, v2, v3, I, L => (0, 0, v2, v3)
  | n + 1, v1, v2, v3, I, L =>
    if (I 68 1) ≤ v3 then
      (0, 0, v2, v3)
    else
      let q0 := f_249 v3 v1 I;
      if q0 = 0 then
        lp_268_12 n v1 (v2 ||| 0) (v3 + 1) I L
      else
        lp_268_12 n v1 (v2 ||| (I 68 (Int32.toNatClampNeg (18 + v3)))) (v3 + 1) I L
def lq_268_12 : Nat → Int32 → Int32 → Int32 → (Nat → Nat → Int32) → (Nat → Nat → Int64) → Prop
  | 0, v1, v2, v3, I, L => False
  | n + 1, v1, v2, v3, I, L =>
    if (I 68 1) ≤ v3 then
      True
    else
      p_249 v3 v1 I ∧
      (let q0 := f_249 v3 v1 I;
        if q0 = 0 then
          lq_268_12 n v1 (v2 ||| 0) (v3 + 1) I L
        else
          ¬ ((18 + v3) < 0 ∨ 5510 ≤ Int32.toNatClampNeg (18 + v3)) ∧
          lq_268_12 n v1 (v2 ||| (I 68 (Int32.toNatClampNeg (18 + v3)))) (v3 + 1) I L)
set_option maxRecDepth 100000 in
theorem sl_268_12 {S : am_S} {d N : Nat} {T : Nat → Nat × Nat} {r : Nat → Nat → Option Nat} {Q : am_Q} : ∀ (n : Nat) {v1 : Int32} {v2 : Int32} {v3 : Int32} {I : Nat → Nat → Int32} {L : Nat → Nat → Int64} (hp : lq_268_12 n v1 v2 v3 I L) (h0 : (lp_268_12 n v1 v2 v3 I L).1 = 0 → am_E S 268 (d + 2) 0 0 53 [.ref 66, .int v1, .int (lp_268_12 n v1 v2 v3 I L).2.2.1, .int (lp_268_12 n v1 v2 v3 I L).2.2.2] [] (N, am_ts T, I, L, am_rs r) Q), am_E S 268 (d + 2) 0 0 12 [.ref 66, .int v1, .int v2, .int v3] [] (N, am_ts T, I, L, am_rs r) Q
  | 0, _, _, _, _, _, hp, _ => hp.elim
  | n + 1, v1, v2, v3, I, L, hp, h0 => by
    have ih := @sl_268_12 S d N T r Q n
    unfold lp_268_12 at h0
    unfold lq_268_12 at hp
    try dsimp only at h0 hp
    refine am_E.run [26, 53] 2000 (show (if (I 68 1) ≤ v3 then (am_E S 268 (d + 2) 0 0 53 [.ref 66, .int v1, .int v2, .int v3] [] (N, am_ts T, I, L, am_rs r) Q) else (am_E S 268 (d + 2) 0 0 26 [.ref 66, .int v1, .int v2, .int v3] [.int v1, .int v3, .ref 66, .int v2] (N, am_ts T, I, L, am_rs r) Q)) from ?_)
    by_cases hc : (I 68 1) ≤ v3
    · rw [if_pos hc] at h0 hp ⊢
      exact h0 rfl
    · rw [if_neg hc] at h0 hp ⊢
      refine am_E.go ⟨fun v h9 => v = some (.int (f_249 v3 v1 I)) ∧ h9 = (N, am_ts T, I, L, am_rs r), s_249 hp.1 ⟨rfl, rfl⟩, ?_⟩
      replace hp := hp.2
      intro v h9 hv
      obtain ⟨rfl, rfl⟩ := hv
      generalize he_q0 : f_249 v3 v1 I = q0 at h0 hp ⊢
      refine am_E.run [12] 2000 (show (if q0 = 0 then (am_E S 268 (d + 2) 0 0 12 [.ref 66, .int v1, .int (v2 ||| 0), .int (v3 + 1)] [] (N, am_ts T, I, L, am_rs r) Q) else (if (18 + v3) < 0 ∨ 5510 ≤ Int32.toNatClampNeg (18 + v3) then False else (am_E S 268 (d + 2) 0 0 12 [.ref 66, .int v1, .int (v2 ||| (I 68 (Int32.toNatClampNeg (18 + v3)))), .int (v3 + 1)] [] (N, am_ts T, I, L, am_rs r) Q))) from ?_)
      by_cases hc : q0 = 0
      · rw [if_pos hc] at h0 hp ⊢
        exact ih hp h0
      · rw [if_neg hc] at h0 hp ⊢
        rw [if_neg hp.1]
        replace hp := hp.2
        exact ih hp h0
/-- KeyKeepersModel.keysFor(I)I -/
def f_268 (x0 : Int32) (I : Nat → Nat → Int32) (L : Nat → Nat → Int64) : Int32 :=
  let q1 := lp_268_12 am_fu x0 (I 68 (Int32.toNatClampNeg (18 + x0))) 0 I L;
  q1.2.2.1
def p_268 (x0 : Int32) (I : Nat → Nat → Int32) (L : Nat → Nat → Int64) : Prop :=
  ¬ ((18 + x0) < 0 ∨ 5510 ≤ Int32.toNatClampNeg (18 + x0)) ∧
  lq_268_12 am_fu x0 (I 68 (Int32.toNatClampNeg (18 + x0))) 0 I L ∧
  (let q1 := lp_268_12 am_fu x0 (I 68 (Int32.toNatClampNeg (18 + x0))) 0 I L;
    True)
set_option maxRecDepth 100000 in
theorem s_268 {S : am_S} {d N : Nat} {T : Nat → Nat × Nat} {I : Nat → Nat → Int32} {L : Nat → Nat → Int64} {r : Nat → Nat → Option Nat} {Q : am_Q} {x0 : Int32} (hp : p_268 x0 I L) (hq : Q (some (.int (f_268 x0 I L))) (N, am_ts T, I, L, am_rs r)) : am_E S 268 (d + 2) 0 0 0 [.ref 66, .int x0, am_jk, am_jk] [] (N, am_ts T, I, L, am_rs r) Q := by
  unfold f_268 at hq
  unfold p_268 at hp
  try dsimp only at hq hp
  refine am_E.run [12] 2000 (show (if (18 + x0) < 0 ∨ 5510 ≤ Int32.toNatClampNeg (18 + x0) then False else (am_E S 268 (d + 2) 0 0 12 [.ref 66, .int x0, .int (I 68 (Int32.toNatClampNeg (18 + x0))), .int 0] [] (N, am_ts T, I, L, am_rs r) Q)) from ?_)
  rw [if_neg hp.1]
  replace hp := hp.2
  refine sl_268_12 am_fu hp.1 (fun hk => ?_)
  · replace hp := hp.2
    generalize he_q1 : lp_268_12 am_fu x0 (I 68 (Int32.toNatClampNeg (18 + x0))) 0 I L = q1 at hq hp hk ⊢
    refine am_E.run [] 2000 (show (True ∧ Q (some (.int q1.2.2.1)) (N, am_ts T, I, L, am_rs r)) from ?_)
    exact ⟨trivial, hq⟩
/-- KeyKeepersModel.takeOff(I)V -/
def f_274 (x0 : Int32) (I : Nat → Nat → Int32) (L : Nat → Nat → Int64) : Int32 × (Nat → Nat → Int32) × (Nat → Nat → Int64) :=
  if x0 < 0 then
    (0, I, L)
  else
    if (I 89 (Int32.toNatClampNeg x0)) < 0 then
      (0, I, L)
    else
      if (I 68 1) ≤ (I 89 (Int32.toNatClampNeg x0)) then
        (0, I, L)
      else
        if (I 92 (Int32.toNatClampNeg x0)) = 0 then
          (0, I, L)
        else
          (0, (am_u (am_u I 91 (Int32.toNatClampNeg (I 89 (Int32.toNatClampNeg x0))) ((I 91 (Int32.toNatClampNeg (I 89 (Int32.toNatClampNeg x0)))) - 1)) 92 (Int32.toNatClampNeg x0) (vp_nar .boolean 0)), L)
def p_274 (x0 : Int32) (I : Nat → Nat → Int32) (L : Nat → Nat → Int64) : Prop :=
  if x0 < 0 then
    True
  else
    ¬ (x0 < 0 ∨ 7 ≤ Int32.toNatClampNeg x0) ∧
    if (I 89 (Int32.toNatClampNeg x0)) < 0 then
      True
    else
      ¬ (x0 < 0 ∨ 7 ≤ Int32.toNatClampNeg x0) ∧
      if (I 68 1) ≤ (I 89 (Int32.toNatClampNeg x0)) then
        True
      else
        ¬ (x0 < 0 ∨ 7 ≤ Int32.toNatClampNeg x0) ∧
        if (I 92 (Int32.toNatClampNeg x0)) = 0 then
          True
        else
          ¬ (x0 < 0 ∨ 7 ≤ Int32.toNatClampNeg x0) ∧
          ¬ ((I 89 (Int32.toNatClampNeg x0)) < 0 ∨ 8 ≤ Int32.toNatClampNeg (I 89 (Int32.toNatClampNeg x0))) ∧
          ¬ ((I 89 (Int32.toNatClampNeg x0)) < 0 ∨ 8 ≤ Int32.toNatClampNeg (I 89 (Int32.toNatClampNeg x0))) ∧
          ¬ (x0 < 0 ∨ 7 ≤ Int32.toNatClampNeg x0) ∧
          True
set_option maxRecDepth 100000 in
theorem s_274 {S : am_S} {d N : Nat} {T : Nat → Nat × Nat} {I : Nat → Nat → Int32} {L : Nat → Nat → Int64} {r : Nat → Nat → Option Nat} {Q : am_Q} {x0 : Int32} (hp : p_274 x0 I L) (hq : Q (none) (N, am_ts T, (f_274 x0 I L).2.1, (f_274 x0 I L).2.2, am_rs r)) : am_E S 274 (d + 0) 0 0 0 [.ref 66, .int x0] [] (N, am_ts T, I, L, am_rs r) Q := by
  unfold f_274 at hq
  unfold p_274 at hp
  try dsimp only at hq hp
  refine am_E.run [] 2000 (show (if x0 < 0 then (True ∧ Q (none) (N, am_ts T, I, L, am_rs r)) else (if x0 < 0 ∨ 7 ≤ Int32.toNatClampNeg x0 then False else (if (I 89 (Int32.toNatClampNeg x0)) < 0 then (True ∧ Q (none) (N, am_ts T, I, L, am_rs r)) else (if x0 < 0 ∨ 7 ≤ Int32.toNatClampNeg x0 then False else (if (I 68 1) ≤ (I 89 (Int32.toNatClampNeg x0)) then (True ∧ Q (none) (N, am_ts T, I, L, am_rs r)) else (if x0 < 0 ∨ 7 ≤ Int32.toNatClampNeg x0 then False else (if (I 92 (Int32.toNatClampNeg x0)) = 0 then (True ∧ Q (none) (N, am_ts T, I, L, am_rs r)) else (if x0 < 0 ∨ 7 ≤ Int32.toNatClampNeg x0 then False else (if (I 89 (Int32.toNatClampNeg x0)) < 0 ∨ 8 ≤ Int32.toNatClampNeg (I 89 (Int32.toNatClampNeg x0)) then False else (if (I 89 (Int32.toNatClampNeg x0)) < 0 ∨ 8 ≤ Int32.toNatClampNeg (I 89 (Int32.toNatClampNeg x0)) then False else (if x0 < 0 ∨ 7 ≤ Int32.toNatClampNeg x0 then False else (True ∧ Q (none) (N, am_ts T, (am_u (am_u I 91 (Int32.toNatClampNeg (I 89 (Int32.toNatClampNeg x0))) ((I 91 (Int32.toNatClampNeg (I 89 (Int32.toNatClampNeg x0)))) - 1)) 92 (Int32.toNatClampNeg x0) (vp_nar .boolean 0)), L, am_rs r))))))))))))) from ?_)
  by_cases hc : x0 < 0
  · rw [if_pos hc] at hq hp ⊢
    exact ⟨trivial, hq⟩
  · rw [if_neg hc] at hq hp ⊢
    rw [if_neg hp.1]
    replace hp := hp.2
    by_cases hc : (I 89 (Int32.toNatClampNeg x0)) < 0
    · rw [if_pos hc] at hq hp ⊢
      exact ⟨trivial, hq⟩
    · rw [if_neg hc] at hq hp ⊢
      rw [if_neg hp.1]
      replace hp := hp.2
      by_cases hc : (I 68 1) ≤ (I 89 (Int32.toNatClampNeg x0))
      · rw [if_pos hc] at hq hp ⊢
        exact ⟨trivial, hq⟩
      · rw [if_neg hc] at hq hp ⊢
        rw [if_neg hp.1]
        replace hp := hp.2
        by_cases hc : (I 92 (Int32.toNatClampNeg x0)) = 0
        · rw [if_pos hc] at hq hp ⊢
          exact ⟨trivial, hq⟩
        · rw [if_neg hc] at hq hp ⊢
          rw [if_neg hp.1]
          replace hp := hp.2
          rw [if_neg hp.1]
          replace hp := hp.2
          rw [if_neg hp.1]
          replace hp := hp.2
          rw [if_neg hp.1]
          replace hp := hp.2
          exact ⟨trivial, hq⟩
/-- KeyKeepersModel.costAt(I)I -/
def f_275 (x0 : Int32) (I : Nat → Nat → Int32) : Int32 :=
  if x0 ≤ 0 then
    (I 88 (Int32.toNatClampNeg (((12 * (I 89 (Int32.toNatClampNeg x0))) + (2 * x0)) + 0)))
  else
    if (I 89 (Int32.toNatClampNeg (x0 - 1))) = (I 89 (Int32.toNatClampNeg x0)) then
      (I 88 (Int32.toNatClampNeg (((12 * (I 89 (Int32.toNatClampNeg x0))) + (2 * x0)) + 1)))
    else
      (I 88 (Int32.toNatClampNeg (((12 * (I 89 (Int32.toNatClampNeg x0))) + (2 * x0)) + 0)))
def p_275 (x0 : Int32) (I : Nat → Nat → Int32) : Prop :=
  ¬ (x0 < 0 ∨ 7 ≤ Int32.toNatClampNeg x0) ∧
  if x0 ≤ 0 then
    ¬ ((((12 * (I 89 (Int32.toNatClampNeg x0))) + (2 * x0)) + 0) < 0 ∨ 96 ≤ Int32.toNatClampNeg (((12 * (I 89 (Int32.toNatClampNeg x0))) + (2 * x0)) + 0)) ∧
    True
  else
    ¬ ((x0 - 1) < 0 ∨ 7 ≤ Int32.toNatClampNeg (x0 - 1)) ∧
    ¬ (x0 < 0 ∨ 7 ≤ Int32.toNatClampNeg x0) ∧
    if (I 89 (Int32.toNatClampNeg (x0 - 1))) = (I 89 (Int32.toNatClampNeg x0)) then
      ¬ ((((12 * (I 89 (Int32.toNatClampNeg x0))) + (2 * x0)) + 1) < 0 ∨ 96 ≤ Int32.toNatClampNeg (((12 * (I 89 (Int32.toNatClampNeg x0))) + (2 * x0)) + 1)) ∧
      True
    else
      ¬ ((((12 * (I 89 (Int32.toNatClampNeg x0))) + (2 * x0)) + 0) < 0 ∨ 96 ≤ Int32.toNatClampNeg (((12 * (I 89 (Int32.toNatClampNeg x0))) + (2 * x0)) + 0)) ∧
      True
set_option maxRecDepth 100000 in
theorem s_275 {S : am_S} {d N : Nat} {T : Nat → Nat × Nat} {I : Nat → Nat → Int32} {L : Nat → Nat → Int64} {r : Nat → Nat → Option Nat} {Q : am_Q} {x0 : Int32} (hp : p_275 x0 I) (hq : Q (some (.int (f_275 x0 I))) (N, am_ts T, I, L, am_rs r)) : am_E S 275 (d + 0) 0 0 0 [.ref 66, .int x0] [] (N, am_ts T, I, L, am_rs r) Q := by
  unfold f_275 at hq
  unfold p_275 at hp
  try dsimp only at hq hp
  refine am_E.run [] 2000 (show (if x0 < 0 ∨ 7 ≤ Int32.toNatClampNeg x0 then False else (if x0 ≤ 0 then (if (((12 * (I 89 (Int32.toNatClampNeg x0))) + (2 * x0)) + 0) < 0 ∨ 96 ≤ Int32.toNatClampNeg (((12 * (I 89 (Int32.toNatClampNeg x0))) + (2 * x0)) + 0) then False else (True ∧ Q (some (.int (I 88 (Int32.toNatClampNeg (((12 * (I 89 (Int32.toNatClampNeg x0))) + (2 * x0)) + 0))))) (N, am_ts T, I, L, am_rs r))) else (if (x0 - 1) < 0 ∨ 7 ≤ Int32.toNatClampNeg (x0 - 1) then False else (if x0 < 0 ∨ 7 ≤ Int32.toNatClampNeg x0 then False else (if (I 89 (Int32.toNatClampNeg (x0 - 1))) = (I 89 (Int32.toNatClampNeg x0)) then (if (((12 * (I 89 (Int32.toNatClampNeg x0))) + (2 * x0)) + 1) < 0 ∨ 96 ≤ Int32.toNatClampNeg (((12 * (I 89 (Int32.toNatClampNeg x0))) + (2 * x0)) + 1) then False else (True ∧ Q (some (.int (I 88 (Int32.toNatClampNeg (((12 * (I 89 (Int32.toNatClampNeg x0))) + (2 * x0)) + 1))))) (N, am_ts T, I, L, am_rs r))) else (if (((12 * (I 89 (Int32.toNatClampNeg x0))) + (2 * x0)) + 0) < 0 ∨ 96 ≤ Int32.toNatClampNeg (((12 * (I 89 (Int32.toNatClampNeg x0))) + (2 * x0)) + 0) then False else (True ∧ Q (some (.int (I 88 (Int32.toNatClampNeg (((12 * (I 89 (Int32.toNatClampNeg x0))) + (2 * x0)) + 0))))) (N, am_ts T, I, L, am_rs r)))))))) from ?_)
  rw [if_neg hp.1]
  replace hp := hp.2
  by_cases hc : x0 ≤ 0
  · rw [if_pos hc] at hq hp ⊢
    rw [if_neg hp.1]
    replace hp := hp.2
    exact ⟨trivial, hq⟩
  · rw [if_neg hc] at hq hp ⊢
    rw [if_neg hp.1]
    replace hp := hp.2
    rw [if_neg hp.1]
    replace hp := hp.2
    by_cases hc : (I 89 (Int32.toNatClampNeg (x0 - 1))) = (I 89 (Int32.toNatClampNeg x0))
    · rw [if_pos hc] at hq hp ⊢
      rw [if_neg hp.1]
      replace hp := hp.2
      exact ⟨trivial, hq⟩
    · rw [if_neg hc] at hq hp ⊢
      rw [if_neg hp.1]
      replace hp := hp.2
      exact ⟨trivial, hq⟩
def lp_280_4 : Nat → Int32 → Int32 → Int32 → (Nat → Nat → Int32) → (Nat → Nat → Int64) → Nat × Int32 × Int32 × Int32
  | 0, v1, v2, v3, I, L => (0, 0, v2, v3)
  | n + 1, v1, v2, v3, I, L =>
    if v1 ≤ v3 then
      (0, 0, v2, v3)
    else
      lp_280_4 n v1 (v2 ||| (1 <<< ((I 93 (Int32.toNatClampNeg v3)) &&& 31))) (v3 + 1) I L
def lq_280_4 : Nat → Int32 → Int32 → Int32 → (Nat → Nat → Int32) → (Nat → Nat → Int64) → Prop
  | 0, v1, v2, v3, I, L => False
  | n + 1, v1, v2, v3, I, L =>
    if v1 ≤ v3 then
      True
    else
      ¬ (v3 < 0 ∨ 6 ≤ Int32.toNatClampNeg v3) ∧
      lq_280_4 n v1 (v2 ||| (1 <<< ((I 93 (Int32.toNatClampNeg v3)) &&& 31))) (v3 + 1) I L
set_option maxRecDepth 100000 in
theorem sl_280_4 {S : am_S} {d N : Nat} {T : Nat → Nat × Nat} {r : Nat → Nat → Option Nat} {Q : am_Q} : ∀ (n : Nat) {v1 : Int32} {v2 : Int32} {v3 : Int32} {I : Nat → Nat → Int32} {L : Nat → Nat → Int64} (hp : lq_280_4 n v1 v2 v3 I L) (h0 : (lp_280_4 n v1 v2 v3 I L).1 = 0 → am_E S 280 (d + 2) 0 0 26 [.ref 66, .int v1, .int (lp_280_4 n v1 v2 v3 I L).2.2.1, .int (lp_280_4 n v1 v2 v3 I L).2.2.2, am_jk, am_jk] [] (N, am_ts T, I, L, am_rs r) Q), am_E S 280 (d + 2) 0 0 4 [.ref 66, .int v1, .int v2, .int v3, am_jk, am_jk] [] (N, am_ts T, I, L, am_rs r) Q
  | 0, _, _, _, _, _, hp, _ => hp.elim
  | n + 1, v1, v2, v3, I, L, hp, h0 => by
    have ih := @sl_280_4 S d N T r Q n
    unfold lp_280_4 at h0
    unfold lq_280_4 at hp
    try dsimp only at h0 hp
    refine am_E.run [4, 26] 2000 (show (if v1 ≤ v3 then (am_E S 280 (d + 2) 0 0 26 [.ref 66, .int v1, .int v2, .int v3, am_jk, am_jk] [] (N, am_ts T, I, L, am_rs r) Q) else (if v3 < 0 ∨ 6 ≤ Int32.toNatClampNeg v3 then False else (am_E S 280 (d + 2) 0 0 4 [.ref 66, .int v1, .int (v2 ||| (1 <<< ((I 93 (Int32.toNatClampNeg v3)) &&& 31))), .int (v3 + 1), am_jk, am_jk] [] (N, am_ts T, I, L, am_rs r) Q))) from ?_)
    by_cases hc : v1 ≤ v3
    · rw [if_pos hc] at h0 hp ⊢
      exact h0 rfl
    · rw [if_neg hc] at h0 hp ⊢
      rw [if_neg hp.1]
      replace hp := hp.2
      exact ih hp h0
def lp_280_63 : Nat → Int32 → Int32 → Int32 → Int32 → Int32 → (Nat → Nat → Int32) → (Nat → Nat → Int64) → Nat × Int32 × Int32 × Int32
  | 0, v1, v2, v3, v4, v5, I, L => (0, 0, v3, v5)
  | n + 1, v1, v2, v3, v4, v5, I, L =>
    if v4 ≤ v5 then
      (0, 0, v3, v5)
    else
      if v3 = 0 then
        lp_280_63 n v1 v2 0 v4 (v5 + 1) I L
      else
        let q3 := f_248 v2 v4;
        if q3 = 0 then
          lp_280_63 n v1 v2 1 v4 (v5 + 1) I L
        else
          let q4 := f_248 v2 v5;
          if q4 = 0 then
            lp_280_63 n v1 v2 1 v4 (v5 + 1) I L
          else
            let q5 := f_249 v4 v5 I;
            if q5 = 0 then
              lp_280_63 n v1 v2 1 v4 (v5 + 1) I L
            else
              let q6 := f_249 v5 v4 I;
              if q6 = 0 then
                lp_280_63 n v1 v2 1 v4 (v5 + 1) I L
              else
                lp_280_63 n v1 v2 0 v4 (v5 + 1) I L
def lq_280_63 : Nat → Int32 → Int32 → Int32 → Int32 → Int32 → (Nat → Nat → Int32) → (Nat → Nat → Int64) → Prop
  | 0, v1, v2, v3, v4, v5, I, L => False
  | n + 1, v1, v2, v3, v4, v5, I, L =>
    if v4 ≤ v5 then
      True
    else
      if v3 = 0 then
        lq_280_63 n v1 v2 0 v4 (v5 + 1) I L
      else
        (let q3 := f_248 v2 v4;
          if q3 = 0 then
            lq_280_63 n v1 v2 1 v4 (v5 + 1) I L
          else
            (let q4 := f_248 v2 v5;
              if q4 = 0 then
                lq_280_63 n v1 v2 1 v4 (v5 + 1) I L
              else
                p_249 v4 v5 I ∧
                (let q5 := f_249 v4 v5 I;
                  if q5 = 0 then
                    lq_280_63 n v1 v2 1 v4 (v5 + 1) I L
                  else
                    p_249 v5 v4 I ∧
                    (let q6 := f_249 v5 v4 I;
                      if q6 = 0 then
                        lq_280_63 n v1 v2 1 v4 (v5 + 1) I L
                      else
                        lq_280_63 n v1 v2 0 v4 (v5 + 1) I L))))
set_option maxRecDepth 100000 in
theorem sl_280_63 {S : am_S} {d N : Nat} {T : Nat → Nat × Nat} {r : Nat → Nat → Option Nat} {Q : am_Q} : ∀ (n : Nat) {v1 : Int32} {v2 : Int32} {v3 : Int32} {v4 : Int32} {v5 : Int32} {I : Nat → Nat → Int32} {L : Nat → Nat → Int64} (hp : lq_280_63 n v1 v2 v3 v4 v5 I L) (h0 : (lp_280_63 n v1 v2 v3 v4 v5 I L).1 = 0 → am_E S 280 (d + 2) 0 0 126 [.ref 66, .int v1, .int v2, .int (lp_280_63 n v1 v2 v3 v4 v5 I L).2.2.1, .int v4, .int (lp_280_63 n v1 v2 v3 v4 v5 I L).2.2.2] [] (N, am_ts T, I, L, am_rs r) Q), am_E S 280 (d + 2) 0 0 63 [.ref 66, .int v1, .int v2, .int v3, .int v4, .int v5] [] (N, am_ts T, I, L, am_rs r) Q
  | 0, _, _, _, _, _, _, _, hp, _ => hp.elim
  | n + 1, v1, v2, v3, v4, v5, I, L, hp, h0 => by
    have ih := @sl_280_63 S d N T r Q n
    unfold lp_280_63 at h0
    unfold lq_280_63 at hp
    try dsimp only at h0 hp
    refine am_E.run [63, 77, 126] 2000 (show (if v4 ≤ v5 then (am_E S 280 (d + 2) 0 0 126 [.ref 66, .int v1, .int v2, .int v3, .int v4, .int v5] [] (N, am_ts T, I, L, am_rs r) Q) else (if v3 = 0 then (am_E S 280 (d + 2) 0 0 63 [.ref 66, .int v1, .int v2, .int 0, .int v4, .int (v5 + 1)] [] (N, am_ts T, I, L, am_rs r) Q) else (am_E S 280 (d + 2) 0 0 77 [.ref 66, .int v1, .int v2, .int v3, .int v4, .int v5] [.int v4, .int v2] (N, am_ts T, I, L, am_rs r) Q))) from ?_)
    by_cases hc : v4 ≤ v5
    · rw [if_pos hc] at h0 hp ⊢
      exact h0 rfl
    · rw [if_neg hc] at h0 hp ⊢
      by_cases hc : v3 = 0
      · rw [if_pos hc] at h0 hp ⊢
        exact ih hp h0
      · rw [if_neg hc] at h0 hp ⊢
        refine am_E.go ⟨fun v h9 => v = some (.int (f_248 v2 v4)) ∧ h9 = (N, am_ts T, I, L, am_rs r), s_248 ⟨rfl, rfl⟩, ?_⟩
        intro v h9 hv
        obtain ⟨rfl, rfl⟩ := hv
        generalize he_q3 : f_248 v2 v4 = q3 at h0 hp ⊢
        refine am_E.run [63, 86] 2000 (show (if q3 = 0 then (am_E S 280 (d + 2) 0 0 63 [.ref 66, .int v1, .int v2, .int 1, .int v4, .int (v5 + 1)] [] (N, am_ts T, I, L, am_rs r) Q) else (am_E S 280 (d + 2) 0 0 86 [.ref 66, .int v1, .int v2, .int v3, .int v4, .int v5] [.int v5, .int v2] (N, am_ts T, I, L, am_rs r) Q)) from ?_)
        by_cases hc : q3 = 0
        · rw [if_pos hc] at h0 hp ⊢
          exact ih hp h0
        · rw [if_neg hc] at h0 hp ⊢
          refine am_E.go ⟨fun v h9 => v = some (.int (f_248 v2 v5)) ∧ h9 = (N, am_ts T, I, L, am_rs r), s_248 ⟨rfl, rfl⟩, ?_⟩
          intro v h9 hv
          obtain ⟨rfl, rfl⟩ := hv
          generalize he_q4 : f_248 v2 v5 = q4 at h0 hp ⊢
          refine am_E.run [63, 97] 2000 (show (if q4 = 0 then (am_E S 280 (d + 2) 0 0 63 [.ref 66, .int v1, .int v2, .int 1, .int v4, .int (v5 + 1)] [] (N, am_ts T, I, L, am_rs r) Q) else (am_E S 280 (d + 2) 0 0 97 [.ref 66, .int v1, .int v2, .int v3, .int v4, .int v5] [.int v5, .int v4, .ref 66] (N, am_ts T, I, L, am_rs r) Q)) from ?_)
          by_cases hc : q4 = 0
          · rw [if_pos hc] at h0 hp ⊢
            exact ih hp h0
          · rw [if_neg hc] at h0 hp ⊢
            refine am_E.go ⟨fun v h9 => v = some (.int (f_249 v4 v5 I)) ∧ h9 = (N, am_ts T, I, L, am_rs r), s_249 hp.1 ⟨rfl, rfl⟩, ?_⟩
            replace hp := hp.2
            intro v h9 hv
            obtain ⟨rfl, rfl⟩ := hv
            generalize he_q5 : f_249 v4 v5 I = q5 at h0 hp ⊢
            refine am_E.run [63, 108] 2000 (show (if q5 = 0 then (am_E S 280 (d + 2) 0 0 63 [.ref 66, .int v1, .int v2, .int 1, .int v4, .int (v5 + 1)] [] (N, am_ts T, I, L, am_rs r) Q) else (am_E S 280 (d + 2) 0 0 108 [.ref 66, .int v1, .int v2, .int v3, .int v4, .int v5] [.int v4, .int v5, .ref 66] (N, am_ts T, I, L, am_rs r) Q)) from ?_)
            by_cases hc : q5 = 0
            · rw [if_pos hc] at h0 hp ⊢
              exact ih hp h0
            · rw [if_neg hc] at h0 hp ⊢
              refine am_E.go ⟨fun v h9 => v = some (.int (f_249 v5 v4 I)) ∧ h9 = (N, am_ts T, I, L, am_rs r), s_249 hp.1 ⟨rfl, rfl⟩, ?_⟩
              replace hp := hp.2
              intro v h9 hv
              obtain ⟨rfl, rfl⟩ := hv
              generalize he_q6 : f_249 v5 v4 I = q6 at h0 hp ⊢
              refine am_E.run [63] 2000 (show (if q6 = 0 then (am_E S 280 (d + 2) 0 0 63 [.ref 66, .int v1, .int v2, .int 1, .int v4, .int (v5 + 1)] [] (N, am_ts T, I, L, am_rs r) Q) else (am_E S 280 (d + 2) 0 0 63 [.ref 66, .int v1, .int v2, .int 0, .int v4, .int (v5 + 1)] [] (N, am_ts T, I, L, am_rs r) Q)) from ?_)
              by_cases hc : q6 = 0
              · rw [if_pos hc] at h0 hp ⊢
                exact ih hp h0
              · rw [if_neg hc] at h0 hp ⊢
                exact ih hp h0
def lp_280_41 : Nat → Int32 → Int32 → Int32 → Int32 → (Nat → Nat → Int32) → (Nat → Nat → Int64) → Nat × Int32 × Int32 × Int32
  | 0, v1, v2, v3, v4, I, L => (0, 0, v3, v4)
  | n + 1, v1, v2, v3, v4, I, L =>
    if (I 68 1) ≤ v4 then
      (0, 0, v3, v4)
    else
      let q2 := f_236 v2;
      if q2 = 2 then
        let q7 := lp_280_63 am_fu v1 v2 v3 v4 0 I L;
        lp_280_41 n v1 v2 q7.2.2.1 (v4 + 1) I L
      else
        (0, 0, v3, v4)
def lq_280_41 : Nat → Int32 → Int32 → Int32 → Int32 → (Nat → Nat → Int32) → (Nat → Nat → Int64) → Prop
  | 0, v1, v2, v3, v4, I, L => False
  | n + 1, v1, v2, v3, v4, I, L =>
    if (I 68 1) ≤ v4 then
      True
    else
      (let q2 := f_236 v2;
        if q2 = 2 then
          lq_280_63 am_fu v1 v2 v3 v4 0 I L ∧
          (let q7 := lp_280_63 am_fu v1 v2 v3 v4 0 I L;
            lq_280_41 n v1 v2 q7.2.2.1 (v4 + 1) I L)
        else
          True)
set_option maxRecDepth 100000 in
theorem sl_280_41 {S : am_S} {d N : Nat} {T : Nat → Nat × Nat} {r : Nat → Nat → Option Nat} {Q : am_Q} : ∀ (n : Nat) {v1 : Int32} {v2 : Int32} {v3 : Int32} {v4 : Int32} {I : Nat → Nat → Int32} {L : Nat → Nat → Int64} (hp : lq_280_41 n v1 v2 v3 v4 I L) (h0 : (lp_280_41 n v1 v2 v3 v4 I L).1 = 0 → am_E S 280 (d + 2) 0 0 132 [.ref 66, .int v1, .int v2, .int (lp_280_41 n v1 v2 v3 v4 I L).2.2.1, .int (lp_280_41 n v1 v2 v3 v4 I L).2.2.2, am_jk] [] (N, am_ts T, I, L, am_rs r) Q), am_E S 280 (d + 2) 0 0 41 [.ref 66, .int v1, .int v2, .int v3, .int v4, am_jk] [] (N, am_ts T, I, L, am_rs r) Q
  | 0, _, _, _, _, _, _, hp, _ => hp.elim
  | n + 1, v1, v2, v3, v4, I, L, hp, h0 => by
    have ih := @sl_280_41 S d N T r Q n
    unfold lp_280_41 at h0
    unfold lq_280_41 at hp
    try dsimp only at h0 hp
    refine am_E.run [53, 132] 2000 (show (if (I 68 1) ≤ v4 then (am_E S 280 (d + 2) 0 0 132 [.ref 66, .int v1, .int v2, .int v3, .int v4, am_jk] [] (N, am_ts T, I, L, am_rs r) Q) else (am_E S 280 (d + 2) 0 0 53 [.ref 66, .int v1, .int v2, .int v3, .int v4, am_jk] [.int v2] (N, am_ts T, I, L, am_rs r) Q)) from ?_)
    by_cases hc : (I 68 1) ≤ v4
    · rw [if_pos hc] at h0 hp ⊢
      exact h0 rfl
    · rw [if_neg hc] at h0 hp ⊢
      refine am_E.go ⟨fun v h9 => v = some (.int (f_236 v2)) ∧ h9 = (N, am_ts T, I, L, am_rs r), s_236 ⟨rfl, rfl⟩, ?_⟩
      intro v h9 hv
      obtain ⟨rfl, rfl⟩ := hv
      generalize he_q2 : f_236 v2 = q2 at h0 hp ⊢
      refine am_E.run [63, 132] 2000 (show (if q2 = 2 then (am_E S 280 (d + 2) 0 0 63 [.ref 66, .int v1, .int v2, .int v3, .int v4, .int 0] [] (N, am_ts T, I, L, am_rs r) Q) else (am_E S 280 (d + 2) 0 0 132 [.ref 66, .int v1, .int v2, .int v3, .int v4, am_jk] [] (N, am_ts T, I, L, am_rs r) Q)) from ?_)
      by_cases hc : q2 = 2
      · rw [if_pos hc] at h0 hp ⊢
        refine sl_280_63 am_fu hp.1 (fun hk => ?_)
        · replace hp := hp.2
          generalize he_q7 : lp_280_63 am_fu v1 v2 v3 v4 0 I L = q7 at h0 hp hk ⊢
          refine am_E.run [41] 2000 (show (am_E S 280 (d + 2) 0 0 41 [.ref 66, .int v1, .int v2, .int q7.2.2.1, .int (v4 + 1), .int q7.2.2.2] [] (N, am_ts T, I, L, am_rs r) Q) from ?_)
          exact am_E.junk (ih hp h0) (am_le.cons (am_le.cons (am_le.cons (am_le.cons (am_le.cons (am_le.jk am_le.nil))))))
      · rw [if_neg hc] at h0 hp ⊢
        exact h0 rfl
/-- KeyKeepersModel.areParted(I)Z -/
def f_280 (x0 : Int32) (I : Nat → Nat → Int32) (L : Nat → Nat → Int64) : Int32 :=
  let q0 := lp_280_4 am_fu x0 0 0 I L;
  let q1 := f_236 q0.2.2.1;
  if q1 = 1 then
    0
  else
    let q8 := lp_280_41 am_fu x0 q0.2.2.1 1 0 I L;
    q8.2.2.1
def p_280 (x0 : Int32) (I : Nat → Nat → Int32) (L : Nat → Nat → Int64) : Prop :=
  lq_280_4 am_fu x0 0 0 I L ∧
  (let q0 := lp_280_4 am_fu x0 0 0 I L;
    (let q1 := f_236 q0.2.2.1;
      if q1 = 1 then
        True
      else
        lq_280_41 am_fu x0 q0.2.2.1 1 0 I L ∧
        (let q8 := lp_280_41 am_fu x0 q0.2.2.1 1 0 I L;
          (q8.2.2.1 = 0 ∨ q8.2.2.1 = 1))))
set_option maxRecDepth 100000 in
theorem s_280 {S : am_S} {d N : Nat} {T : Nat → Nat × Nat} {I : Nat → Nat → Int32} {L : Nat → Nat → Int64} {r : Nat → Nat → Option Nat} {Q : am_Q} {x0 : Int32} (hp : p_280 x0 I L) (hq : Q (some (.int (f_280 x0 I L))) (N, am_ts T, I, L, am_rs r)) : am_E S 280 (d + 2) 0 0 0 [.ref 66, .int x0, am_jk, am_jk, am_jk, am_jk] [] (N, am_ts T, I, L, am_rs r) Q := by
  unfold f_280 at hq
  unfold p_280 at hp
  try dsimp only at hq hp
  refine am_E.run [4] 2000 (show (am_E S 280 (d + 2) 0 0 4 [.ref 66, .int x0, .int 0, .int 0, am_jk, am_jk] [] (N, am_ts T, I, L, am_rs r) Q) from ?_)
  refine sl_280_4 am_fu hp.1 (fun hk => ?_)
  · replace hp := hp.2
    generalize he_q0 : lp_280_4 am_fu x0 0 0 I L = q0 at hq hp hk ⊢
    refine am_E.run [27] 2000 (show (am_E S 280 (d + 2) 0 0 27 [.ref 66, .int x0, .int q0.2.2.1, .int q0.2.2.2, am_jk, am_jk] [.int q0.2.2.1] (N, am_ts T, I, L, am_rs r) Q) from ?_)
    refine am_E.go ⟨fun v h9 => v = some (.int (f_236 q0.2.2.1)) ∧ h9 = (N, am_ts T, I, L, am_rs r), s_236 ⟨rfl, rfl⟩, ?_⟩
    intro v h9 hv
    obtain ⟨rfl, rfl⟩ := hv
    generalize he_q1 : f_236 q0.2.2.1 = q1 at hq hp ⊢
    refine am_E.run [41] 2000 (show (if q1 = 1 then (((0 : Int32) = 0 ∨ (0 : Int32) = 1) ∧ Q (some (.int 0)) (N, am_ts T, I, L, am_rs r)) else (am_E S 280 (d + 2) 0 0 41 [.ref 66, .int x0, .int q0.2.2.1, .int 1, .int 0, am_jk] [] (N, am_ts T, I, L, am_rs r) Q)) from ?_)
    by_cases hc : q1 = 1
    · rw [if_pos hc] at hq hp ⊢
      exact ⟨Or.inl rfl, hq⟩
    · rw [if_neg hc] at hq hp ⊢
      refine sl_280_41 am_fu hp.1 (fun hk => ?_)
      · replace hp := hp.2
        generalize he_q8 : lp_280_41 am_fu x0 q0.2.2.1 1 0 I L = q8 at hq hp hk ⊢
        refine am_E.run [] 2000 (show ((q8.2.2.1 = 0 ∨ q8.2.2.1 = 1) ∧ Q (some (.int q8.2.2.1)) (N, am_ts T, I, L, am_rs r)) from ?_)
        exact ⟨hp, hq⟩
/-- KeyKeepersModel.tally(II)I -/
def f_281 (x0 : Int32) (x1 : Int32) (I : Nat → Nat → Int32) (L : Nat → Nat → Int64) : Int32 × (Nat → Nat → Int32) × (Nat → Nat → Int64) :=
  let q0 := f_182 (Int32.toInt64 x0) 0 ((1 <<< (Int32.toInt64 (I 68 1) &&& 63)) - 1);
  if q0 = 0 then
    let q1 := f_179 (-1) (am_u I 66 0 0) L;
    (q1.1, q1.2.1, q1.2.2)
  else
    let q2 := f_236 x0;
    let q3 := f_182 (Int32.toInt64 x1) 0 (Int32.toInt64 q2);
    if q3 = 0 then
      let q6 := f_179 (-1) (am_u I 66 0 0) L;
      (q6.1, q6.2.1, q6.2.2)
    else
      if (I 68 2) = 8 then
        let q5 := f_179 (-5) (am_u I 66 0 0) L;
        (q5.1, q5.2.1, q5.2.2)
      else
        let q4 := f_179 ((I 68 2) + 1) (am_u (am_u (am_u (am_u I 66 0 0) 68 (Int32.toNatClampNeg (94 + (2 * (I 68 2)))) x0) 68 (Int32.toNatClampNeg ((94 + (2 * (I 68 2))) + 1)) x1) 68 2 (((am_u (am_u (am_u I 66 0 0) 68 (Int32.toNatClampNeg (94 + (2 * (I 68 2)))) x0) 68 (Int32.toNatClampNeg ((94 + (2 * (I 68 2))) + 1)) x1) 68 2) + 1)) L;
        (q4.1, q4.2.1, q4.2.2)
def p_281 (x0 : Int32) (x1 : Int32) (I : Nat → Nat → Int32) (L : Nat → Nat → Int64) : Prop :=
  (let q0 := f_182 (Int32.toInt64 x0) 0 ((1 <<< (Int32.toInt64 (I 68 1) &&& 63)) - 1);
    if q0 = 0 then
      p_179 (-1) (am_u I 66 0 0) L ∧
      (let q1 := f_179 (-1) (am_u I 66 0 0) L;
        True)
    else
      (let q2 := f_236 x0;
        (let q3 := f_182 (Int32.toInt64 x1) 0 (Int32.toInt64 q2);
          if q3 = 0 then
            p_179 (-1) (am_u I 66 0 0) L ∧
            (let q6 := f_179 (-1) (am_u I 66 0 0) L;
              True)
          else
            if (I 68 2) = 8 then
              p_179 (-5) (am_u I 66 0 0) L ∧
              (let q5 := f_179 (-5) (am_u I 66 0 0) L;
                True)
            else
              ¬ ((94 + (2 * (I 68 2))) < 0 ∨ 5510 ≤ Int32.toNatClampNeg (94 + (2 * (I 68 2)))) ∧
              ¬ (((94 + (2 * (I 68 2))) + 1) < 0 ∨ 5510 ≤ Int32.toNatClampNeg ((94 + (2 * (I 68 2))) + 1)) ∧
              p_179 ((I 68 2) + 1) (am_u (am_u (am_u (am_u I 66 0 0) 68 (Int32.toNatClampNeg (94 + (2 * (I 68 2)))) x0) 68 (Int32.toNatClampNeg ((94 + (2 * (I 68 2))) + 1)) x1) 68 2 (((am_u (am_u (am_u I 66 0 0) 68 (Int32.toNatClampNeg (94 + (2 * (I 68 2)))) x0) 68 (Int32.toNatClampNeg ((94 + (2 * (I 68 2))) + 1)) x1) 68 2) + 1)) L ∧
              (let q4 := f_179 ((I 68 2) + 1) (am_u (am_u (am_u (am_u I 66 0 0) 68 (Int32.toNatClampNeg (94 + (2 * (I 68 2)))) x0) 68 (Int32.toNatClampNeg ((94 + (2 * (I 68 2))) + 1)) x1) 68 2 (((am_u (am_u (am_u I 66 0 0) 68 (Int32.toNatClampNeg (94 + (2 * (I 68 2)))) x0) 68 (Int32.toNatClampNeg ((94 + (2 * (I 68 2))) + 1)) x1) 68 2) + 1)) L;
                True))))
set_option maxRecDepth 100000 in
theorem s_281 {S : am_S} {d N : Nat} {T : Nat → Nat × Nat} {I : Nat → Nat → Int32} {L : Nat → Nat → Int64} {r : Nat → Nat → Option Nat} {Q : am_Q} {x0 : Int32} {x1 : Int32} (hp : p_281 x0 x1 I L) (hq : Q (some (.int (f_281 x0 x1 I L).1)) (N, am_ts T, (f_281 x0 x1 I L).2.1, (f_281 x0 x1 I L).2.2, am_rs r)) : am_E S 281 (d + 1) 0 0 0 [.ref 66, .int x0, .int x1, am_jk] [] (N, am_ts T, I, L, am_rs r) Q := by
  unfold f_281 at hq
  unfold p_281 at hp
  try dsimp only at hq hp
  refine am_E.run [18] 2000 (show (am_E S 281 (d + 1) 0 0 18 [.ref 66, .int x0, .int x1, am_jk] [.long ((1 <<< (Int32.toInt64 (I 68 1) &&& 63)) - 1), .long 0, .long (Int32.toInt64 x0)] (N, am_ts T, (am_u I 66 0 0), L, am_rs r) Q) from ?_)
  refine am_E.go ⟨fun v h9 => v = some (.int (f_182 (Int32.toInt64 x0) 0 ((1 <<< (Int32.toInt64 (I 68 1) &&& 63)) - 1))) ∧ h9 = (N, am_ts T, (am_u I 66 0 0), L, am_rs r), s_182 ⟨rfl, rfl⟩, ?_⟩
  intro v h9 hv
  obtain ⟨rfl, rfl⟩ := hv
  generalize he_q0 : f_182 (Int32.toInt64 x0) 0 ((1 <<< (Int32.toInt64 (I 68 1) &&& 63)) - 1) = q0 at hq hp ⊢
  refine am_E.run [28, 40] 2000 (show (if q0 = 0 then (am_E S 281 (d + 1) 0 0 40 [.ref 66, .int x0, .int x1, am_jk] [.int (-1), .ref 66] (N, am_ts T, (am_u I 66 0 0), L, am_rs r) Q) else (am_E S 281 (d + 1) 0 0 28 [.ref 66, .int x0, .int x1, am_jk] [.int x0, .long 0, .long (Int32.toInt64 x1)] (N, am_ts T, (am_u I 66 0 0), L, am_rs r) Q)) from ?_)
  by_cases hc : q0 = 0
  · rw [if_pos hc] at hq hp ⊢
    refine am_E.go ⟨fun v h9 => v = some (.int (f_179 (-1) (am_u I 66 0 0) L).1) ∧ h9 = (N, am_ts T, (f_179 (-1) (am_u I 66 0 0) L).2.1, (f_179 (-1) (am_u I 66 0 0) L).2.2, am_rs r), s_179 hp.1 ⟨rfl, rfl⟩, ?_⟩
    replace hp := hp.2
    intro v h9 hv
    obtain ⟨rfl, rfl⟩ := hv
    generalize he_q1 : f_179 (-1) (am_u I 66 0 0) L = q1 at hq ⊢
    refine am_E.run [] 2000 (show (True ∧ Q (some (.int q1.1)) (N, am_ts T, q1.2.1, q1.2.2, am_rs r)) from ?_)
    exact ⟨trivial, hq⟩
  · rw [if_neg hc] at hq hp ⊢
    refine am_E.go ⟨fun v h9 => v = some (.int (f_236 x0)) ∧ h9 = (N, am_ts T, (am_u I 66 0 0), L, am_rs r), s_236 ⟨rfl, rfl⟩, ?_⟩
    intro v h9 hv
    obtain ⟨rfl, rfl⟩ := hv
    generalize he_q2 : f_236 x0 = q2 at hq hp ⊢
    refine am_E.run [32] 2000 (show (am_E S 281 (d + 1) 0 0 32 [.ref 66, .int x0, .int x1, am_jk] [.long (Int32.toInt64 q2), .long 0, .long (Int32.toInt64 x1)] (N, am_ts T, (am_u I 66 0 0), L, am_rs r) Q) from ?_)
    refine am_E.go ⟨fun v h9 => v = some (.int (f_182 (Int32.toInt64 x1) 0 (Int32.toInt64 q2))) ∧ h9 = (N, am_ts T, (am_u I 66 0 0), L, am_rs r), s_182 ⟨rfl, rfl⟩, ?_⟩
    intro v h9 hv
    obtain ⟨rfl, rfl⟩ := hv
    generalize he_q3 : f_182 (Int32.toInt64 x1) 0 (Int32.toInt64 q2) = q3 at hq hp ⊢
    refine am_E.run [40, 60, 104] 2000 (show (if q3 = 0 then (am_E S 281 (d + 1) 0 0 40 [.ref 66, .int x0, .int x1, am_jk] [.int (-1), .ref 66] (N, am_ts T, (am_u I 66 0 0), L, am_rs r) Q) else (if (I 68 2) = 8 then (am_E S 281 (d + 1) 0 0 60 [.ref 66, .int x0, .int x1, .int (I 68 2)] [.int (-5), .ref 66] (N, am_ts T, (am_u I 66 0 0), L, am_rs r) Q) else (if (94 + (2 * (I 68 2))) < 0 ∨ 5510 ≤ Int32.toNatClampNeg (94 + (2 * (I 68 2))) then False else (if ((94 + (2 * (I 68 2))) + 1) < 0 ∨ 5510 ≤ Int32.toNatClampNeg ((94 + (2 * (I 68 2))) + 1) then False else (am_E S 281 (d + 1) 0 0 104 [.ref 66, .int x0, .int x1, .int (I 68 2)] [.int ((I 68 2) + 1), .ref 66] (N, am_ts T, (am_u (am_u (am_u (am_u I 66 0 0) 68 (Int32.toNatClampNeg (94 + (2 * (I 68 2)))) x0) 68 (Int32.toNatClampNeg ((94 + (2 * (I 68 2))) + 1)) x1) 68 2 (((am_u (am_u (am_u I 66 0 0) 68 (Int32.toNatClampNeg (94 + (2 * (I 68 2)))) x0) 68 (Int32.toNatClampNeg ((94 + (2 * (I 68 2))) + 1)) x1) 68 2) + 1)), L, am_rs r) Q))))) from ?_)
    by_cases hc : q3 = 0
    · rw [if_pos hc] at hq hp ⊢
      refine am_E.go ⟨fun v h9 => v = some (.int (f_179 (-1) (am_u I 66 0 0) L).1) ∧ h9 = (N, am_ts T, (f_179 (-1) (am_u I 66 0 0) L).2.1, (f_179 (-1) (am_u I 66 0 0) L).2.2, am_rs r), s_179 hp.1 ⟨rfl, rfl⟩, ?_⟩
      replace hp := hp.2
      intro v h9 hv
      obtain ⟨rfl, rfl⟩ := hv
      generalize he_q6 : f_179 (-1) (am_u I 66 0 0) L = q6 at hq ⊢
      refine am_E.run [] 2000 (show (True ∧ Q (some (.int q6.1)) (N, am_ts T, q6.2.1, q6.2.2, am_rs r)) from ?_)
      exact ⟨trivial, hq⟩
    · rw [if_neg hc] at hq hp ⊢
      by_cases hc : (I 68 2) = 8
      · rw [if_pos hc] at hq hp ⊢
        refine am_E.go ⟨fun v h9 => v = some (.int (f_179 (-5) (am_u I 66 0 0) L).1) ∧ h9 = (N, am_ts T, (f_179 (-5) (am_u I 66 0 0) L).2.1, (f_179 (-5) (am_u I 66 0 0) L).2.2, am_rs r), s_179 hp.1 ⟨rfl, rfl⟩, ?_⟩
        replace hp := hp.2
        intro v h9 hv
        obtain ⟨rfl, rfl⟩ := hv
        generalize he_q5 : f_179 (-5) (am_u I 66 0 0) L = q5 at hq ⊢
        refine am_E.run [] 2000 (show (True ∧ Q (some (.int q5.1)) (N, am_ts T, q5.2.1, q5.2.2, am_rs r)) from ?_)
        exact ⟨trivial, hq⟩
      · rw [if_neg hc] at hq hp ⊢
        rw [if_neg hp.1]
        replace hp := hp.2
        rw [if_neg hp.1]
        replace hp := hp.2
        refine am_E.go ⟨fun v h9 => v = some (.int (f_179 ((I 68 2) + 1) (am_u (am_u (am_u (am_u I 66 0 0) 68 (Int32.toNatClampNeg (94 + (2 * (I 68 2)))) x0) 68 (Int32.toNatClampNeg ((94 + (2 * (I 68 2))) + 1)) x1) 68 2 (((am_u (am_u (am_u I 66 0 0) 68 (Int32.toNatClampNeg (94 + (2 * (I 68 2)))) x0) 68 (Int32.toNatClampNeg ((94 + (2 * (I 68 2))) + 1)) x1) 68 2) + 1)) L).1) ∧ h9 = (N, am_ts T, (f_179 ((I 68 2) + 1) (am_u (am_u (am_u (am_u I 66 0 0) 68 (Int32.toNatClampNeg (94 + (2 * (I 68 2)))) x0) 68 (Int32.toNatClampNeg ((94 + (2 * (I 68 2))) + 1)) x1) 68 2 (((am_u (am_u (am_u I 66 0 0) 68 (Int32.toNatClampNeg (94 + (2 * (I 68 2)))) x0) 68 (Int32.toNatClampNeg ((94 + (2 * (I 68 2))) + 1)) x1) 68 2) + 1)) L).2.1, (f_179 ((I 68 2) + 1) (am_u (am_u (am_u (am_u I 66 0 0) 68 (Int32.toNatClampNeg (94 + (2 * (I 68 2)))) x0) 68 (Int32.toNatClampNeg ((94 + (2 * (I 68 2))) + 1)) x1) 68 2 (((am_u (am_u (am_u I 66 0 0) 68 (Int32.toNatClampNeg (94 + (2 * (I 68 2)))) x0) 68 (Int32.toNatClampNeg ((94 + (2 * (I 68 2))) + 1)) x1) 68 2) + 1)) L).2.2, am_rs r), s_179 hp.1 ⟨rfl, rfl⟩, ?_⟩
        replace hp := hp.2
        intro v h9 hv
        obtain ⟨rfl, rfl⟩ := hv
        generalize he_q4 : f_179 ((I 68 2) + 1) (am_u (am_u (am_u (am_u I 66 0 0) 68 (Int32.toNatClampNeg (94 + (2 * (I 68 2)))) x0) 68 (Int32.toNatClampNeg ((94 + (2 * (I 68 2))) + 1)) x1) 68 2 (((am_u (am_u (am_u I 66 0 0) 68 (Int32.toNatClampNeg (94 + (2 * (I 68 2)))) x0) 68 (Int32.toNatClampNeg ((94 + (2 * (I 68 2))) + 1)) x1) 68 2) + 1)) L = q4 at hq ⊢
        refine am_E.run [] 2000 (show (True ∧ Q (some (.int q4.1)) (N, am_ts T, q4.2.1, q4.2.2, am_rs r)) from ?_)
        exact ⟨trivial, hq⟩
/-- KeyKeepersModel.forget()I -/
def f_282 (I : Nat → Nat → Int32) (L : Nat → Nat → Int64) : Int32 × (Nat → Nat → Int32) × (Nat → Nat → Int64) :=
  ((I 68 2), (am_u (am_u I 66 0 0) 68 2 0), L)
set_option maxRecDepth 100000 in
theorem s_282 {S : am_S} {d N : Nat} {T : Nat → Nat × Nat} {I : Nat → Nat → Int32} {L : Nat → Nat → Int64} {r : Nat → Nat → Option Nat} {Q : am_Q} (hq : Q (some (.int (f_282 I L).1)) (N, am_ts T, (f_282 I L).2.1, (f_282 I L).2.2, am_rs r)) : am_E S 282 (d + 0) 0 0 0 [.ref 66, am_jk] [] (N, am_ts T, I, L, am_rs r) Q := by
  unfold f_282 at hq
  try dsimp only at hq
  refine am_E.run [] 2000 (show (True ∧ Q (some (.int (I 68 2))) (N, am_ts T, (am_u (am_u I 66 0 0) 68 2 0), L, am_rs r)) from ?_)
  exact ⟨trivial, hq⟩
def lp_284_4 : Nat → Int32 → Int32 → Int32 → (Nat → Nat → Int32) → (Nat → Nat → Int64) → Nat × Int32 × Int32 × Int32
  | 0, v1, v2, v3, I, L => (0, 0, v2, v3)
  | n + 1, v1, v2, v3, I, L =>
    if (I 68 2) ≤ v3 then
      (0, 0, v2, v3)
    else
      if v2 = 0 then
        lp_284_4 n v1 0 (v3 + 1) I L
      else
        let q0 := f_236 (I 68 (Int32.toNatClampNeg (94 + (2 * v3))));
        let q1 := f_236 ((I 68 (Int32.toNatClampNeg (94 + (2 * v3)))) &&& v1);
        if (q0 - q1) = (I 68 (Int32.toNatClampNeg ((94 + (2 * v3)) + 1))) then
          lp_284_4 n v1 1 (v3 + 1) I L
        else
          lp_284_4 n v1 0 (v3 + 1) I L
def lq_284_4 : Nat → Int32 → Int32 → Int32 → (Nat → Nat → Int32) → (Nat → Nat → Int64) → Prop
  | 0, v1, v2, v3, I, L => False
  | n + 1, v1, v2, v3, I, L =>
    if (I 68 2) ≤ v3 then
      True
    else
      ¬ ((94 + (2 * v3)) < 0 ∨ 5510 ≤ Int32.toNatClampNeg (94 + (2 * v3))) ∧
      if v2 = 0 then
        lq_284_4 n v1 0 (v3 + 1) I L
      else
        (let q0 := f_236 (I 68 (Int32.toNatClampNeg (94 + (2 * v3))));
          (let q1 := f_236 ((I 68 (Int32.toNatClampNeg (94 + (2 * v3)))) &&& v1);
            ¬ (((94 + (2 * v3)) + 1) < 0 ∨ 5510 ≤ Int32.toNatClampNeg ((94 + (2 * v3)) + 1)) ∧
            if (q0 - q1) = (I 68 (Int32.toNatClampNeg ((94 + (2 * v3)) + 1))) then
              lq_284_4 n v1 1 (v3 + 1) I L
            else
              lq_284_4 n v1 0 (v3 + 1) I L))
set_option maxRecDepth 100000 in
theorem sl_284_4 {S : am_S} {d N : Nat} {T : Nat → Nat × Nat} {r : Nat → Nat → Option Nat} {Q : am_Q} : ∀ (n : Nat) {v1 : Int32} {v2 : Int32} {v3 : Int32} {I : Nat → Nat → Int32} {L : Nat → Nat → Int64} (hp : lq_284_4 n v1 v2 v3 I L) (h0 : (lp_284_4 n v1 v2 v3 I L).1 = 0 → am_E S 284 (d + 1) 0 0 72 [.ref 66, .int v1, .int (lp_284_4 n v1 v2 v3 I L).2.2.1, .int (lp_284_4 n v1 v2 v3 I L).2.2.2, am_jk] [] (N, am_ts T, I, L, am_rs r) Q), am_E S 284 (d + 1) 0 0 4 [.ref 66, .int v1, .int v2, .int v3, am_jk] [] (N, am_ts T, I, L, am_rs r) Q
  | 0, _, _, _, _, _, hp, _ => hp.elim
  | n + 1, v1, v2, v3, I, L, hp, h0 => by
    have ih := @sl_284_4 S d N T r Q n
    unfold lp_284_4 at h0
    unfold lq_284_4 at hp
    try dsimp only at h0 hp
    refine am_E.run [4, 33, 72] 2000 (show (if (I 68 2) ≤ v3 then (am_E S 284 (d + 1) 0 0 72 [.ref 66, .int v1, .int v2, .int v3, am_jk] [] (N, am_ts T, I, L, am_rs r) Q) else (if (94 + (2 * v3)) < 0 ∨ 5510 ≤ Int32.toNatClampNeg (94 + (2 * v3)) then False else (if v2 = 0 then (am_E S 284 (d + 1) 0 0 4 [.ref 66, .int v1, .int 0, .int (v3 + 1), .int (I 68 (Int32.toNatClampNeg (94 + (2 * v3))))] [] (N, am_ts T, I, L, am_rs r) Q) else (am_E S 284 (d + 1) 0 0 33 [.ref 66, .int v1, .int v2, .int v3, .int (I 68 (Int32.toNatClampNeg (94 + (2 * v3))))] [.int (I 68 (Int32.toNatClampNeg (94 + (2 * v3))))] (N, am_ts T, I, L, am_rs r) Q)))) from ?_)
    by_cases hc : (I 68 2) ≤ v3
    · rw [if_pos hc] at h0 hp ⊢
      exact h0 rfl
    · rw [if_neg hc] at h0 hp ⊢
      rw [if_neg hp.1]
      replace hp := hp.2
      by_cases hc : v2 = 0
      · rw [if_pos hc] at h0 hp ⊢
        exact am_E.junk (ih hp h0) (am_le.cons (am_le.cons (am_le.cons (am_le.cons (am_le.jk am_le.nil)))))
      · rw [if_neg hc] at h0 hp ⊢
        refine am_E.go ⟨fun v h9 => v = some (.int (f_236 (I 68 (Int32.toNatClampNeg (94 + (2 * v3)))))) ∧ h9 = (N, am_ts T, I, L, am_rs r), s_236 ⟨rfl, rfl⟩, ?_⟩
        intro v h9 hv
        obtain ⟨rfl, rfl⟩ := hv
        generalize he_q0 : f_236 (I 68 (Int32.toNatClampNeg (94 + (2 * v3)))) = q0 at h0 hp ⊢
        refine am_E.run [40] 2000 (show (am_E S 284 (d + 1) 0 0 40 [.ref 66, .int v1, .int v2, .int v3, .int (I 68 (Int32.toNatClampNeg (94 + (2 * v3))))] [.int ((I 68 (Int32.toNatClampNeg (94 + (2 * v3)))) &&& v1), .int q0] (N, am_ts T, I, L, am_rs r) Q) from ?_)
        refine am_E.go ⟨fun v h9 => v = some (.int (f_236 ((I 68 (Int32.toNatClampNeg (94 + (2 * v3)))) &&& v1))) ∧ h9 = (N, am_ts T, I, L, am_rs r), s_236 ⟨rfl, rfl⟩, ?_⟩
        intro v h9 hv
        obtain ⟨rfl, rfl⟩ := hv
        generalize he_q1 : f_236 ((I 68 (Int32.toNatClampNeg (94 + (2 * v3)))) &&& v1) = q1 at h0 hp ⊢
        refine am_E.run [4] 2000 (show (if ((94 + (2 * v3)) + 1) < 0 ∨ 5510 ≤ Int32.toNatClampNeg ((94 + (2 * v3)) + 1) then False else (if (q0 - q1) = (I 68 (Int32.toNatClampNeg ((94 + (2 * v3)) + 1))) then (am_E S 284 (d + 1) 0 0 4 [.ref 66, .int v1, .int 1, .int (v3 + 1), .int (I 68 (Int32.toNatClampNeg (94 + (2 * v3))))] [] (N, am_ts T, I, L, am_rs r) Q) else (am_E S 284 (d + 1) 0 0 4 [.ref 66, .int v1, .int 0, .int (v3 + 1), .int (I 68 (Int32.toNatClampNeg (94 + (2 * v3))))] [] (N, am_ts T, I, L, am_rs r) Q))) from ?_)
        rw [if_neg hp.1]
        replace hp := hp.2
        by_cases hc : (q0 - q1) = (I 68 (Int32.toNatClampNeg ((94 + (2 * v3)) + 1)))
        · rw [if_pos hc] at h0 hp ⊢
          exact am_E.junk (ih hp h0) (am_le.cons (am_le.cons (am_le.cons (am_le.cons (am_le.jk am_le.nil)))))
        · rw [if_neg hc] at h0 hp ⊢
          exact am_E.junk (ih hp h0) (am_le.cons (am_le.cons (am_le.cons (am_le.cons (am_le.jk am_le.nil)))))
/-- KeyKeepersModel.isAsCounted(I)Z -/
def f_284 (x0 : Int32) (I : Nat → Nat → Int32) (L : Nat → Nat → Int64) : Int32 :=
  let q2 := lp_284_4 am_fu x0 1 0 I L;
  q2.2.2.1
def p_284 (x0 : Int32) (I : Nat → Nat → Int32) (L : Nat → Nat → Int64) : Prop :=
  lq_284_4 am_fu x0 1 0 I L ∧
  (let q2 := lp_284_4 am_fu x0 1 0 I L;
    (q2.2.2.1 = 0 ∨ q2.2.2.1 = 1))
set_option maxRecDepth 100000 in
theorem s_284 {S : am_S} {d N : Nat} {T : Nat → Nat × Nat} {I : Nat → Nat → Int32} {L : Nat → Nat → Int64} {r : Nat → Nat → Option Nat} {Q : am_Q} {x0 : Int32} (hp : p_284 x0 I L) (hq : Q (some (.int (f_284 x0 I L))) (N, am_ts T, I, L, am_rs r)) : am_E S 284 (d + 1) 0 0 0 [.ref 66, .int x0, am_jk, am_jk, am_jk] [] (N, am_ts T, I, L, am_rs r) Q := by
  unfold f_284 at hq
  unfold p_284 at hp
  try dsimp only at hq hp
  refine am_E.run [4] 2000 (show (am_E S 284 (d + 1) 0 0 4 [.ref 66, .int x0, .int 1, .int 0, am_jk] [] (N, am_ts T, I, L, am_rs r) Q) from ?_)
  refine sl_284_4 am_fu hp.1 (fun hk => ?_)
  · replace hp := hp.2
    generalize he_q2 : lp_284_4 am_fu x0 1 0 I L = q2 at hq hp hk ⊢
    refine am_E.run [] 2000 (show ((q2.2.2.1 = 0 ∨ q2.2.2.1 = 1) ∧ Q (some (.int q2.2.2.1)) (N, am_ts T, I, L, am_rs r)) from ?_)
    exact ⟨hp, hq⟩
def lp_286_2 : Nat → Int32 → Int32 → (Nat → Nat → Int32) → (Nat → Nat → Int64) → Nat × Int32 × Int32 × (Nat → Nat → Int32) × (Nat → Nat → Int64)
  | 0, v1, v2, I, L => (0, 0, v2, I, L)
  | n + 1, v1, v2, I, L =>
    if (9 : Int32) ≤ v2 then
      (0, 0, v2, I, L)
    else
      lp_286_2 n v1 (v2 + 1) (am_u I 95 (Int32.toNatClampNeg v2) 0) L
def lq_286_2 : Nat → Int32 → Int32 → (Nat → Nat → Int32) → (Nat → Nat → Int64) → Prop
  | 0, v1, v2, I, L => False
  | n + 1, v1, v2, I, L =>
    if (9 : Int32) ≤ v2 then
      True
    else
      ¬ (v2 < 0 ∨ 9 ≤ Int32.toNatClampNeg v2) ∧
      lq_286_2 n v1 (v2 + 1) (am_u I 95 (Int32.toNatClampNeg v2) 0) L
set_option maxRecDepth 100000 in
theorem sl_286_2 {S : am_S} {d N : Nat} {T : Nat → Nat × Nat} {r : Nat → Nat → Option Nat} {Q : am_Q} : ∀ (n : Nat) {v1 : Int32} {v2 : Int32} {I : Nat → Nat → Int32} {L : Nat → Nat → Int64} (hp : lq_286_2 n v1 v2 I L) (h0 : (lp_286_2 n v1 v2 I L).1 = 0 → am_E S 286 (d + 1) 0 0 21 [.ref 66, .int v1, .int (lp_286_2 n v1 v2 I L).2.2.1, am_jk, am_jk] [] (N, am_ts T, (lp_286_2 n v1 v2 I L).2.2.2.1, (lp_286_2 n v1 v2 I L).2.2.2.2, am_rs r) Q), am_E S 286 (d + 1) 0 0 2 [.ref 66, .int v1, .int v2, am_jk, am_jk] [] (N, am_ts T, I, L, am_rs r) Q
  | 0, _, _, _, _, hp, _ => hp.elim
  | n + 1, v1, v2, I, L, hp, h0 => by
    have ih := @sl_286_2 S d N T r Q n
    unfold lp_286_2 at h0
    unfold lq_286_2 at hp
    try dsimp only at h0 hp
    refine am_E.run [2, 21] 2000 (show (if (9 : Int32) ≤ v2 then (am_E S 286 (d + 1) 0 0 21 [.ref 66, .int v1, .int v2, am_jk, am_jk] [] (N, am_ts T, I, L, am_rs r) Q) else (if v2 < 0 ∨ 9 ≤ Int32.toNatClampNeg v2 then False else (am_E S 286 (d + 1) 0 0 2 [.ref 66, .int v1, .int (v2 + 1), am_jk, am_jk] [] (N, am_ts T, (am_u I 95 (Int32.toNatClampNeg v2) 0), L, am_rs r) Q))) from ?_)
    by_cases hc : (9 : Int32) ≤ v2
    · rw [if_pos hc] at h0 hp ⊢
      exact h0 rfl
    · rw [if_neg hc] at h0 hp ⊢
      rw [if_neg hp.1]
      replace hp := hp.2
      exact ih hp h0
def lp_286_25 : Nat → Int32 → Int32 → Int32 → (Nat → Nat → Int32) → (Nat → Nat → Int64) → Nat × Int32 × Int32 × Int32 × (Nat → Nat → Int32) × (Nat → Nat → Int64)
  | 0, v1, v2, v3, I, L => (0, 0, v2, v3, I, L)
  | n + 1, v1, v2, v3, I, L =>
    if (1 <<< ((I 68 1) &&& 31)) ≤ v3 then
      (0, 0, v2, v3, I, L)
    else
      if (I 96 (Int32.toNatClampNeg v3)) = 0 then
        lp_286_25 n v1 v2 (v3 + 1) I L
      else
        let q1 := f_236 v1;
        let q2 := f_236 (v1 &&& v3);
        if ((am_u I 95 (Int32.toNatClampNeg (q1 - q2)) ((I 95 (Int32.toNatClampNeg (q1 - q2))) + 1)) 95 (Int32.toNatClampNeg (q1 - q2))) ≤ v2 then
          lp_286_25 n v1 v2 (v3 + 1) (am_u I 95 (Int32.toNatClampNeg (q1 - q2)) ((I 95 (Int32.toNatClampNeg (q1 - q2))) + 1)) L
        else
          lp_286_25 n v1 ((am_u I 95 (Int32.toNatClampNeg (q1 - q2)) ((I 95 (Int32.toNatClampNeg (q1 - q2))) + 1)) 95 (Int32.toNatClampNeg (q1 - q2))) (v3 + 1) (am_u I 95 (Int32.toNatClampNeg (q1 - q2)) ((I 95 (Int32.toNatClampNeg (q1 - q2))) + 1)) L
def lq_286_25 : Nat → Int32 → Int32 → Int32 → (Nat → Nat → Int32) → (Nat → Nat → Int64) → Prop
  | 0, v1, v2, v3, I, L => False
  | n + 1, v1, v2, v3, I, L =>
    if (1 <<< ((I 68 1) &&& 31)) ≤ v3 then
      True
    else
      ¬ (v3 < 0 ∨ 256 ≤ Int32.toNatClampNeg v3) ∧
      if (I 96 (Int32.toNatClampNeg v3)) = 0 then
        lq_286_25 n v1 v2 (v3 + 1) I L
      else
        (let q1 := f_236 v1;
          (let q2 := f_236 (v1 &&& v3);
            ¬ ((q1 - q2) < 0 ∨ 9 ≤ Int32.toNatClampNeg (q1 - q2)) ∧
            ¬ ((q1 - q2) < 0 ∨ 9 ≤ Int32.toNatClampNeg (q1 - q2)) ∧
            ¬ ((q1 - q2) < 0 ∨ 9 ≤ Int32.toNatClampNeg (q1 - q2)) ∧
            if ((am_u I 95 (Int32.toNatClampNeg (q1 - q2)) ((I 95 (Int32.toNatClampNeg (q1 - q2))) + 1)) 95 (Int32.toNatClampNeg (q1 - q2))) ≤ v2 then
              lq_286_25 n v1 v2 (v3 + 1) (am_u I 95 (Int32.toNatClampNeg (q1 - q2)) ((I 95 (Int32.toNatClampNeg (q1 - q2))) + 1)) L
            else
              ¬ ((q1 - q2) < 0 ∨ 9 ≤ Int32.toNatClampNeg (q1 - q2)) ∧
              lq_286_25 n v1 ((am_u I 95 (Int32.toNatClampNeg (q1 - q2)) ((I 95 (Int32.toNatClampNeg (q1 - q2))) + 1)) 95 (Int32.toNatClampNeg (q1 - q2))) (v3 + 1) (am_u I 95 (Int32.toNatClampNeg (q1 - q2)) ((I 95 (Int32.toNatClampNeg (q1 - q2))) + 1)) L))
set_option maxRecDepth 100000 in
theorem sl_286_25 {S : am_S} {d N : Nat} {T : Nat → Nat × Nat} {r : Nat → Nat → Option Nat} {Q : am_Q} : ∀ (n : Nat) {v1 : Int32} {v2 : Int32} {v3 : Int32} {I : Nat → Nat → Int32} {L : Nat → Nat → Int64} (hp : lq_286_25 n v1 v2 v3 I L) (h0 : (lp_286_25 n v1 v2 v3 I L).1 = 0 → am_E S 286 (d + 1) 0 0 99 [.ref 66, .int v1, .int (lp_286_25 n v1 v2 v3 I L).2.2.1, .int (lp_286_25 n v1 v2 v3 I L).2.2.2.1, am_jk] [] (N, am_ts T, (lp_286_25 n v1 v2 v3 I L).2.2.2.2.1, (lp_286_25 n v1 v2 v3 I L).2.2.2.2.2, am_rs r) Q), am_E S 286 (d + 1) 0 0 25 [.ref 66, .int v1, .int v2, .int v3, am_jk] [] (N, am_ts T, I, L, am_rs r) Q
  | 0, _, _, _, _, _, hp, _ => hp.elim
  | n + 1, v1, v2, v3, I, L, hp, h0 => by
    have ih := @sl_286_25 S d N T r Q n
    unfold lp_286_25 at h0
    unfold lq_286_25 at hp
    try dsimp only at h0 hp
    refine am_E.run [25, 47, 99] 2000 (show (if (1 <<< ((I 68 1) &&& 31)) ≤ v3 then (am_E S 286 (d + 1) 0 0 99 [.ref 66, .int v1, .int v2, .int v3, am_jk] [] (N, am_ts T, I, L, am_rs r) Q) else (if v3 < 0 ∨ 256 ≤ Int32.toNatClampNeg v3 then False else (if (I 96 (Int32.toNatClampNeg v3)) = 0 then (am_E S 286 (d + 1) 0 0 25 [.ref 66, .int v1, .int v2, .int (v3 + 1), am_jk] [] (N, am_ts T, I, L, am_rs r) Q) else (am_E S 286 (d + 1) 0 0 47 [.ref 66, .int v1, .int v2, .int v3, am_jk] [.int v1] (N, am_ts T, I, L, am_rs r) Q)))) from ?_)
    by_cases hc : (1 <<< ((I 68 1) &&& 31)) ≤ v3
    · rw [if_pos hc] at h0 hp ⊢
      exact h0 rfl
    · rw [if_neg hc] at h0 hp ⊢
      rw [if_neg hp.1]
      replace hp := hp.2
      by_cases hc : (I 96 (Int32.toNatClampNeg v3)) = 0
      · rw [if_pos hc] at h0 hp ⊢
        exact ih hp h0
      · rw [if_neg hc] at h0 hp ⊢
        refine am_E.go ⟨fun v h9 => v = some (.int (f_236 v1)) ∧ h9 = (N, am_ts T, I, L, am_rs r), s_236 ⟨rfl, rfl⟩, ?_⟩
        intro v h9 hv
        obtain ⟨rfl, rfl⟩ := hv
        generalize he_q1 : f_236 v1 = q1 at h0 hp ⊢
        refine am_E.run [53] 2000 (show (am_E S 286 (d + 1) 0 0 53 [.ref 66, .int v1, .int v2, .int v3, am_jk] [.int (v1 &&& v3), .int q1] (N, am_ts T, I, L, am_rs r) Q) from ?_)
        refine am_E.go ⟨fun v h9 => v = some (.int (f_236 (v1 &&& v3))) ∧ h9 = (N, am_ts T, I, L, am_rs r), s_236 ⟨rfl, rfl⟩, ?_⟩
        intro v h9 hv
        obtain ⟨rfl, rfl⟩ := hv
        generalize he_q2 : f_236 (v1 &&& v3) = q2 at h0 hp ⊢
        refine am_E.run [25] 2000 (show (if (q1 - q2) < 0 ∨ 9 ≤ Int32.toNatClampNeg (q1 - q2) then False else (if (q1 - q2) < 0 ∨ 9 ≤ Int32.toNatClampNeg (q1 - q2) then False else (if (q1 - q2) < 0 ∨ 9 ≤ Int32.toNatClampNeg (q1 - q2) then False else (if ((am_u I 95 (Int32.toNatClampNeg (q1 - q2)) ((I 95 (Int32.toNatClampNeg (q1 - q2))) + 1)) 95 (Int32.toNatClampNeg (q1 - q2))) ≤ v2 then (am_E S 286 (d + 1) 0 0 25 [.ref 66, .int v1, .int v2, .int (v3 + 1), .int (q1 - q2)] [] (N, am_ts T, (am_u I 95 (Int32.toNatClampNeg (q1 - q2)) ((I 95 (Int32.toNatClampNeg (q1 - q2))) + 1)), L, am_rs r) Q) else (if (q1 - q2) < 0 ∨ 9 ≤ Int32.toNatClampNeg (q1 - q2) then False else (am_E S 286 (d + 1) 0 0 25 [.ref 66, .int v1, .int ((am_u I 95 (Int32.toNatClampNeg (q1 - q2)) ((I 95 (Int32.toNatClampNeg (q1 - q2))) + 1)) 95 (Int32.toNatClampNeg (q1 - q2))), .int (v3 + 1), .int (q1 - q2)] [] (N, am_ts T, (am_u I 95 (Int32.toNatClampNeg (q1 - q2)) ((I 95 (Int32.toNatClampNeg (q1 - q2))) + 1)), L, am_rs r) Q)))))) from ?_)
        rw [if_neg hp.1]
        replace hp := hp.2
        rw [if_neg hp.1]
        replace hp := hp.2
        rw [if_neg hp.1]
        replace hp := hp.2
        by_cases hc : ((am_u I 95 (Int32.toNatClampNeg (q1 - q2)) ((I 95 (Int32.toNatClampNeg (q1 - q2))) + 1)) 95 (Int32.toNatClampNeg (q1 - q2))) ≤ v2
        · rw [if_pos hc] at h0 hp ⊢
          exact am_E.junk (ih hp h0) (am_le.cons (am_le.cons (am_le.cons (am_le.cons (am_le.jk am_le.nil)))))
        · rw [if_neg hc] at h0 hp ⊢
          rw [if_neg hp.1]
          replace hp := hp.2
          exact am_E.junk (ih hp h0) (am_le.cons (am_le.cons (am_le.cons (am_le.cons (am_le.jk am_le.nil)))))
/-- KeyKeepersModel.mostLeft(I)I -/
def f_286 (x0 : Int32) (I : Nat → Nat → Int32) (L : Nat → Nat → Int64) : Int32 × (Nat → Nat → Int32) × (Nat → Nat → Int64) :=
  let q0 := lp_286_2 am_fu x0 0 I L;
  let q3 := lp_286_25 am_fu x0 0 0 q0.2.2.2.1 q0.2.2.2.2;
  (q3.2.2.1, q3.2.2.2.2.1, q3.2.2.2.2.2)
def p_286 (x0 : Int32) (I : Nat → Nat → Int32) (L : Nat → Nat → Int64) : Prop :=
  lq_286_2 am_fu x0 0 I L ∧
  (let q0 := lp_286_2 am_fu x0 0 I L;
    lq_286_25 am_fu x0 0 0 q0.2.2.2.1 q0.2.2.2.2 ∧
    (let q3 := lp_286_25 am_fu x0 0 0 q0.2.2.2.1 q0.2.2.2.2;
      True))
set_option maxRecDepth 100000 in
theorem s_286 {S : am_S} {d N : Nat} {T : Nat → Nat × Nat} {I : Nat → Nat → Int32} {L : Nat → Nat → Int64} {r : Nat → Nat → Option Nat} {Q : am_Q} {x0 : Int32} (hp : p_286 x0 I L) (hq : Q (some (.int (f_286 x0 I L).1)) (N, am_ts T, (f_286 x0 I L).2.1, (f_286 x0 I L).2.2, am_rs r)) : am_E S 286 (d + 1) 0 0 0 [.ref 66, .int x0, am_jk, am_jk, am_jk] [] (N, am_ts T, I, L, am_rs r) Q := by
  unfold f_286 at hq
  unfold p_286 at hp
  try dsimp only at hq hp
  refine am_E.run [2] 2000 (show (am_E S 286 (d + 1) 0 0 2 [.ref 66, .int x0, .int 0, am_jk, am_jk] [] (N, am_ts T, I, L, am_rs r) Q) from ?_)
  refine sl_286_2 am_fu hp.1 (fun hk => ?_)
  · replace hp := hp.2
    generalize he_q0 : lp_286_2 am_fu x0 0 I L = q0 at hq hp hk ⊢
    refine am_E.run [25] 2000 (show (am_E S 286 (d + 1) 0 0 25 [.ref 66, .int x0, .int 0, .int 0, am_jk] [] (N, am_ts T, q0.2.2.2.1, q0.2.2.2.2, am_rs r) Q) from ?_)
    refine sl_286_25 am_fu hp.1 (fun hk => ?_)
    · replace hp := hp.2
      generalize he_q3 : lp_286_25 am_fu x0 0 0 q0.2.2.2.1 q0.2.2.2.2 = q3 at hq hp hk ⊢
      refine am_E.run [] 2000 (show (True ∧ Q (some (.int q3.2.2.1)) (N, am_ts T, q3.2.2.2.2.1, q3.2.2.2.2.2, am_rs r)) from ?_)
      exact ⟨trivial, hq⟩
def lp_290_9 : Nat → Int32 → Int32 → Int32 → Int32 → Int32 → Int32 → (Nat → Nat → Int32) → (Nat → Nat → Int64) → Nat × Int32 × Int32 × Int32 × Int32
  | 0, v1, v2, v3, v4, v5, v6, I, L => (0, 0, v4, v5, v6)
  | n + 1, v1, v2, v3, v4, v5, v6, I, L =>
    if (I 68 1) ≤ v6 then
      (0, 0, v4, v5, v6)
    else
      if (I 68 (Int32.toNatClampNeg (10 + v6))) = v1 then
        if (I 68 (Int32.toNatClampNeg (10 + v6))) = v1 then
          lp_290_9 n v1 v2 v3 (v4 + (I 68 (Int32.toNatClampNeg (50 + v6)))) (v5 + (1 - (I 68 (Int32.toNatClampNeg (50 + v6))))) (v6 + 1) I L
        else
          lp_290_9 n v1 v2 v3 (v4 + (I 68 (Int32.toNatClampNeg (50 + v6)))) (v5 + 0) (v6 + 1) I L
      else
        if (I 68 (Int32.toNatClampNeg (10 + v6))) = v1 then
          lp_290_9 n v1 v2 v3 (v4 + 0) (v5 + (1 - (I 68 (Int32.toNatClampNeg (50 + v6))))) (v6 + 1) I L
        else
          lp_290_9 n v1 v2 v3 (v4 + 0) (v5 + 0) (v6 + 1) I L
def lq_290_9 : Nat → Int32 → Int32 → Int32 → Int32 → Int32 → Int32 → (Nat → Nat → Int32) → (Nat → Nat → Int64) → Prop
  | 0, v1, v2, v3, v4, v5, v6, I, L => False
  | n + 1, v1, v2, v3, v4, v5, v6, I, L =>
    if (I 68 1) ≤ v6 then
      True
    else
      ¬ ((10 + v6) < 0 ∨ 5510 ≤ Int32.toNatClampNeg (10 + v6)) ∧
      if (I 68 (Int32.toNatClampNeg (10 + v6))) = v1 then
        ¬ ((50 + v6) < 0 ∨ 5510 ≤ Int32.toNatClampNeg (50 + v6)) ∧
        ¬ ((10 + v6) < 0 ∨ 5510 ≤ Int32.toNatClampNeg (10 + v6)) ∧
        if (I 68 (Int32.toNatClampNeg (10 + v6))) = v1 then
          ¬ ((50 + v6) < 0 ∨ 5510 ≤ Int32.toNatClampNeg (50 + v6)) ∧
          lq_290_9 n v1 v2 v3 (v4 + (I 68 (Int32.toNatClampNeg (50 + v6)))) (v5 + (1 - (I 68 (Int32.toNatClampNeg (50 + v6))))) (v6 + 1) I L
        else
          lq_290_9 n v1 v2 v3 (v4 + (I 68 (Int32.toNatClampNeg (50 + v6)))) (v5 + 0) (v6 + 1) I L
      else
        ¬ ((10 + v6) < 0 ∨ 5510 ≤ Int32.toNatClampNeg (10 + v6)) ∧
        if (I 68 (Int32.toNatClampNeg (10 + v6))) = v1 then
          ¬ ((50 + v6) < 0 ∨ 5510 ≤ Int32.toNatClampNeg (50 + v6)) ∧
          lq_290_9 n v1 v2 v3 (v4 + 0) (v5 + (1 - (I 68 (Int32.toNatClampNeg (50 + v6))))) (v6 + 1) I L
        else
          lq_290_9 n v1 v2 v3 (v4 + 0) (v5 + 0) (v6 + 1) I L
set_option maxRecDepth 100000 in
theorem sl_290_9 {S : am_S} {d N : Nat} {T : Nat → Nat × Nat} {r : Nat → Nat → Option Nat} {Q : am_Q} : ∀ (n : Nat) {v1 : Int32} {v2 : Int32} {v3 : Int32} {v4 : Int32} {v5 : Int32} {v6 : Int32} {I : Nat → Nat → Int32} {L : Nat → Nat → Int64} (hp : lq_290_9 n v1 v2 v3 v4 v5 v6 I L) (h0 : (lp_290_9 n v1 v2 v3 v4 v5 v6 I L).1 = 0 → am_E S 290 (d + 0) 0 0 94 [.ref 66, .int v1, .int v2, .int v3, .int (lp_290_9 n v1 v2 v3 v4 v5 v6 I L).2.2.1, .int (lp_290_9 n v1 v2 v3 v4 v5 v6 I L).2.2.2.1, .int (lp_290_9 n v1 v2 v3 v4 v5 v6 I L).2.2.2.2] [] (N, am_ts T, I, L, am_rs r) Q), am_E S 290 (d + 0) 0 0 9 [.ref 66, .int v1, .int v2, .int v3, .int v4, .int v5, .int v6] [] (N, am_ts T, I, L, am_rs r) Q
  | 0, _, _, _, _, _, _, _, _, hp, _ => hp.elim
  | n + 1, v1, v2, v3, v4, v5, v6, I, L, hp, h0 => by
    have ih := @sl_290_9 S d N T r Q n
    unfold lp_290_9 at h0
    unfold lq_290_9 at hp
    try dsimp only at h0 hp
    refine am_E.run [9, 94] 2000 (show (if (I 68 1) ≤ v6 then (am_E S 290 (d + 0) 0 0 94 [.ref 66, .int v1, .int v2, .int v3, .int v4, .int v5, .int v6] [] (N, am_ts T, I, L, am_rs r) Q) else (if (10 + v6) < 0 ∨ 5510 ≤ Int32.toNatClampNeg (10 + v6) then False else (if (I 68 (Int32.toNatClampNeg (10 + v6))) = v1 then (if (50 + v6) < 0 ∨ 5510 ≤ Int32.toNatClampNeg (50 + v6) then False else (if (10 + v6) < 0 ∨ 5510 ≤ Int32.toNatClampNeg (10 + v6) then False else (if (I 68 (Int32.toNatClampNeg (10 + v6))) = v1 then (if (50 + v6) < 0 ∨ 5510 ≤ Int32.toNatClampNeg (50 + v6) then False else (am_E S 290 (d + 0) 0 0 9 [.ref 66, .int v1, .int v2, .int v3, .int (v4 + (I 68 (Int32.toNatClampNeg (50 + v6)))), .int (v5 + (1 - (I 68 (Int32.toNatClampNeg (50 + v6))))), .int (v6 + 1)] [] (N, am_ts T, I, L, am_rs r) Q)) else (am_E S 290 (d + 0) 0 0 9 [.ref 66, .int v1, .int v2, .int v3, .int (v4 + (I 68 (Int32.toNatClampNeg (50 + v6)))), .int (v5 + 0), .int (v6 + 1)] [] (N, am_ts T, I, L, am_rs r) Q)))) else (if (10 + v6) < 0 ∨ 5510 ≤ Int32.toNatClampNeg (10 + v6) then False else (if (I 68 (Int32.toNatClampNeg (10 + v6))) = v1 then (if (50 + v6) < 0 ∨ 5510 ≤ Int32.toNatClampNeg (50 + v6) then False else (am_E S 290 (d + 0) 0 0 9 [.ref 66, .int v1, .int v2, .int v3, .int (v4 + 0), .int (v5 + (1 - (I 68 (Int32.toNatClampNeg (50 + v6))))), .int (v6 + 1)] [] (N, am_ts T, I, L, am_rs r) Q)) else (am_E S 290 (d + 0) 0 0 9 [.ref 66, .int v1, .int v2, .int v3, .int (v4 + 0), .int (v5 + 0), .int (v6 + 1)] [] (N, am_ts T, I, L, am_rs r) Q)))))) from ?_)
    by_cases hc : (I 68 1) ≤ v6
    · rw [if_pos hc] at h0 hp ⊢
      exact h0 rfl
    · rw [if_neg hc] at h0 hp ⊢
      rw [if_neg hp.1]
      replace hp := hp.2
      by_cases hc : (I 68 (Int32.toNatClampNeg (10 + v6))) = v1
      · rw [if_pos hc] at h0 hp ⊢
        rw [if_neg hp.1]
        replace hp := hp.2
        rw [if_neg hp.1]
        replace hp := hp.2
        by_cases hc : (I 68 (Int32.toNatClampNeg (10 + v6))) = v1
        · rw [if_pos hc] at h0 hp ⊢
          rw [if_neg hp.1]
          replace hp := hp.2
          exact ih hp h0
        · rw [if_neg hc] at h0 hp ⊢
          exact ih hp h0
      · rw [if_neg hc] at h0 hp ⊢
        rw [if_neg hp.1]
        replace hp := hp.2
        by_cases hc : (I 68 (Int32.toNatClampNeg (10 + v6))) = v1
        · rw [if_pos hc] at h0 hp ⊢
          rw [if_neg hp.1]
          replace hp := hp.2
          exact ih hp h0
        · rw [if_neg hc] at h0 hp ⊢
          exact ih hp h0
/-- KeyKeepersModel.isSafe(III)Z -/
def f_290 (x0 : Int32) (x1 : Int32) (x2 : Int32) (I : Nat → Nat → Int32) (L : Nat → Nat → Int64) : Int32 :=
  let q0 := lp_290_9 am_fu x0 x1 x2 0 0 0 I L;
  if x1 ≤ q0.2.2.1 then
    if x1 ≤ q0.2.2.2.1 then
      if x2 ≤ 0 then
        if (0 : Int32) ≤ x2 then
          if (x1 + x1) = 0 then
            1
          else
            0
        else
          if (0 : Int32) ≤ (x2 + (2 * x1)) then
            0
          else
            1
      else
        if (x2 - (2 * x1)) ≤ 0 then
          0
        else
          1
    else
      if x2 ≤ 0 then
        if (0 : Int32) ≤ x2 then
          if (x1 + q0.2.2.2.1) = 0 then
            1
          else
            0
        else
          if (0 : Int32) ≤ (x2 + (2 * q0.2.2.2.1)) then
            0
          else
            1
      else
        if (x2 - (2 * x1)) ≤ 0 then
          0
        else
          1
  else
    if x1 ≤ q0.2.2.2.1 then
      if x2 ≤ 0 then
        if (0 : Int32) ≤ x2 then
          if (q0.2.2.1 + x1) = 0 then
            1
          else
            0
        else
          if (0 : Int32) ≤ (x2 + (2 * x1)) then
            0
          else
            1
      else
        if (x2 - (2 * q0.2.2.1)) ≤ 0 then
          0
        else
          1
    else
      if x2 ≤ 0 then
        if (0 : Int32) ≤ x2 then
          if (q0.2.2.1 + q0.2.2.2.1) = 0 then
            1
          else
            0
        else
          if (0 : Int32) ≤ (x2 + (2 * q0.2.2.2.1)) then
            0
          else
            1
      else
        if (x2 - (2 * q0.2.2.1)) ≤ 0 then
          0
        else
          1
def p_290 (x0 : Int32) (x1 : Int32) (x2 : Int32) (I : Nat → Nat → Int32) (L : Nat → Nat → Int64) : Prop :=
  lq_290_9 am_fu x0 x1 x2 0 0 0 I L ∧
  (let q0 := lp_290_9 am_fu x0 x1 x2 0 0 0 I L;
    if x1 ≤ q0.2.2.1 then
      if x1 ≤ q0.2.2.2.1 then
        if x2 ≤ 0 then
          if (0 : Int32) ≤ x2 then
            if (x1 + x1) = 0 then
              True
            else
              True
          else
            if (0 : Int32) ≤ (x2 + (2 * x1)) then
              True
            else
              True
        else
          if (x2 - (2 * x1)) ≤ 0 then
            True
          else
            True
      else
        if x2 ≤ 0 then
          if (0 : Int32) ≤ x2 then
            if (x1 + q0.2.2.2.1) = 0 then
              True
            else
              True
          else
            if (0 : Int32) ≤ (x2 + (2 * q0.2.2.2.1)) then
              True
            else
              True
        else
          if (x2 - (2 * x1)) ≤ 0 then
            True
          else
            True
    else
      if x1 ≤ q0.2.2.2.1 then
        if x2 ≤ 0 then
          if (0 : Int32) ≤ x2 then
            if (q0.2.2.1 + x1) = 0 then
              True
            else
              True
          else
            if (0 : Int32) ≤ (x2 + (2 * x1)) then
              True
            else
              True
        else
          if (x2 - (2 * q0.2.2.1)) ≤ 0 then
            True
          else
            True
      else
        if x2 ≤ 0 then
          if (0 : Int32) ≤ x2 then
            if (q0.2.2.1 + q0.2.2.2.1) = 0 then
              True
            else
              True
          else
            if (0 : Int32) ≤ (x2 + (2 * q0.2.2.2.1)) then
              True
            else
              True
        else
          if (x2 - (2 * q0.2.2.1)) ≤ 0 then
            True
          else
            True)
set_option maxRecDepth 100000 in
theorem s_290 {S : am_S} {d N : Nat} {T : Nat → Nat × Nat} {I : Nat → Nat → Int32} {L : Nat → Nat → Int64} {r : Nat → Nat → Option Nat} {Q : am_Q} {x0 : Int32} {x1 : Int32} {x2 : Int32} (hp : p_290 x0 x1 x2 I L) (hq : Q (some (.int (f_290 x0 x1 x2 I L))) (N, am_ts T, I, L, am_rs r)) : am_E S 290 (d + 0) 0 0 0 [.ref 66, .int x0, .int x1, .int x2, am_jk, am_jk, am_jk] [] (N, am_ts T, I, L, am_rs r) Q := by
  unfold f_290 at hq
  unfold p_290 at hp
  try dsimp only at hq hp
  refine am_E.run [9] 2000 (show (am_E S 290 (d + 0) 0 0 9 [.ref 66, .int x0, .int x1, .int x2, .int 0, .int 0, .int 0] [] (N, am_ts T, I, L, am_rs r) Q) from ?_)
  refine sl_290_9 am_fu hp.1 (fun hk => ?_)
  · replace hp := hp.2
    generalize he_q0 : lp_290_9 am_fu x0 x1 x2 0 0 0 I L = q0 at hq hp hk ⊢
    refine am_E.run [] 2000 (show (if x1 ≤ q0.2.2.1 then (if x1 ≤ q0.2.2.2.1 then (if x2 ≤ 0 then (if (0 : Int32) ≤ x2 then (if (x1 + x1) = 0 then (((1 : Int32) = 0 ∨ (1 : Int32) = 1) ∧ Q (some (.int 1)) (N, am_ts T, I, L, am_rs r)) else (((0 : Int32) = 0 ∨ (0 : Int32) = 1) ∧ Q (some (.int 0)) (N, am_ts T, I, L, am_rs r))) else (if (0 : Int32) ≤ (x2 + (2 * x1)) then (((0 : Int32) = 0 ∨ (0 : Int32) = 1) ∧ Q (some (.int 0)) (N, am_ts T, I, L, am_rs r)) else (((1 : Int32) = 0 ∨ (1 : Int32) = 1) ∧ Q (some (.int 1)) (N, am_ts T, I, L, am_rs r)))) else (if (x2 - (2 * x1)) ≤ 0 then (((0 : Int32) = 0 ∨ (0 : Int32) = 1) ∧ Q (some (.int 0)) (N, am_ts T, I, L, am_rs r)) else (((1 : Int32) = 0 ∨ (1 : Int32) = 1) ∧ Q (some (.int 1)) (N, am_ts T, I, L, am_rs r)))) else (if x2 ≤ 0 then (if (0 : Int32) ≤ x2 then (if (x1 + q0.2.2.2.1) = 0 then (((1 : Int32) = 0 ∨ (1 : Int32) = 1) ∧ Q (some (.int 1)) (N, am_ts T, I, L, am_rs r)) else (((0 : Int32) = 0 ∨ (0 : Int32) = 1) ∧ Q (some (.int 0)) (N, am_ts T, I, L, am_rs r))) else (if (0 : Int32) ≤ (x2 + (2 * q0.2.2.2.1)) then (((0 : Int32) = 0 ∨ (0 : Int32) = 1) ∧ Q (some (.int 0)) (N, am_ts T, I, L, am_rs r)) else (((1 : Int32) = 0 ∨ (1 : Int32) = 1) ∧ Q (some (.int 1)) (N, am_ts T, I, L, am_rs r)))) else (if (x2 - (2 * x1)) ≤ 0 then (((0 : Int32) = 0 ∨ (0 : Int32) = 1) ∧ Q (some (.int 0)) (N, am_ts T, I, L, am_rs r)) else (((1 : Int32) = 0 ∨ (1 : Int32) = 1) ∧ Q (some (.int 1)) (N, am_ts T, I, L, am_rs r))))) else (if x1 ≤ q0.2.2.2.1 then (if x2 ≤ 0 then (if (0 : Int32) ≤ x2 then (if (q0.2.2.1 + x1) = 0 then (((1 : Int32) = 0 ∨ (1 : Int32) = 1) ∧ Q (some (.int 1)) (N, am_ts T, I, L, am_rs r)) else (((0 : Int32) = 0 ∨ (0 : Int32) = 1) ∧ Q (some (.int 0)) (N, am_ts T, I, L, am_rs r))) else (if (0 : Int32) ≤ (x2 + (2 * x1)) then (((0 : Int32) = 0 ∨ (0 : Int32) = 1) ∧ Q (some (.int 0)) (N, am_ts T, I, L, am_rs r)) else (((1 : Int32) = 0 ∨ (1 : Int32) = 1) ∧ Q (some (.int 1)) (N, am_ts T, I, L, am_rs r)))) else (if (x2 - (2 * q0.2.2.1)) ≤ 0 then (((0 : Int32) = 0 ∨ (0 : Int32) = 1) ∧ Q (some (.int 0)) (N, am_ts T, I, L, am_rs r)) else (((1 : Int32) = 0 ∨ (1 : Int32) = 1) ∧ Q (some (.int 1)) (N, am_ts T, I, L, am_rs r)))) else (if x2 ≤ 0 then (if (0 : Int32) ≤ x2 then (if (q0.2.2.1 + q0.2.2.2.1) = 0 then (((1 : Int32) = 0 ∨ (1 : Int32) = 1) ∧ Q (some (.int 1)) (N, am_ts T, I, L, am_rs r)) else (((0 : Int32) = 0 ∨ (0 : Int32) = 1) ∧ Q (some (.int 0)) (N, am_ts T, I, L, am_rs r))) else (if (0 : Int32) ≤ (x2 + (2 * q0.2.2.2.1)) then (((0 : Int32) = 0 ∨ (0 : Int32) = 1) ∧ Q (some (.int 0)) (N, am_ts T, I, L, am_rs r)) else (((1 : Int32) = 0 ∨ (1 : Int32) = 1) ∧ Q (some (.int 1)) (N, am_ts T, I, L, am_rs r)))) else (if (x2 - (2 * q0.2.2.1)) ≤ 0 then (((0 : Int32) = 0 ∨ (0 : Int32) = 1) ∧ Q (some (.int 0)) (N, am_ts T, I, L, am_rs r)) else (((1 : Int32) = 0 ∨ (1 : Int32) = 1) ∧ Q (some (.int 1)) (N, am_ts T, I, L, am_rs r)))))) from ?_)
    by_cases hc : x1 ≤ q0.2.2.1
    · rw [if_pos hc] at hq hp ⊢
      by_cases hc : x1 ≤ q0.2.2.2.1
      · rw [if_pos hc] at hq hp ⊢
        by_cases hc : x2 ≤ 0
        · rw [if_pos hc] at hq hp ⊢
          by_cases hc : (0 : Int32) ≤ x2
          · rw [if_pos hc] at hq hp ⊢
            by_cases hc : (x1 + x1) = 0
            · rw [if_pos hc] at hq hp ⊢
              exact ⟨Or.inr rfl, hq⟩
            · rw [if_neg hc] at hq hp ⊢
              exact ⟨Or.inl rfl, hq⟩
          · rw [if_neg hc] at hq hp ⊢
            by_cases hc : (0 : Int32) ≤ (x2 + (2 * x1))
            · rw [if_pos hc] at hq hp ⊢
              exact ⟨Or.inl rfl, hq⟩
            · rw [if_neg hc] at hq hp ⊢
              exact ⟨Or.inr rfl, hq⟩
        · rw [if_neg hc] at hq hp ⊢
          by_cases hc : (x2 - (2 * x1)) ≤ 0
          · rw [if_pos hc] at hq hp ⊢
            exact ⟨Or.inl rfl, hq⟩
          · rw [if_neg hc] at hq hp ⊢
            exact ⟨Or.inr rfl, hq⟩
      · rw [if_neg hc] at hq hp ⊢
        by_cases hc : x2 ≤ 0
        · rw [if_pos hc] at hq hp ⊢
          by_cases hc : (0 : Int32) ≤ x2
          · rw [if_pos hc] at hq hp ⊢
            by_cases hc : (x1 + q0.2.2.2.1) = 0
            · rw [if_pos hc] at hq hp ⊢
              exact ⟨Or.inr rfl, hq⟩
            · rw [if_neg hc] at hq hp ⊢
              exact ⟨Or.inl rfl, hq⟩
          · rw [if_neg hc] at hq hp ⊢
            by_cases hc : (0 : Int32) ≤ (x2 + (2 * q0.2.2.2.1))
            · rw [if_pos hc] at hq hp ⊢
              exact ⟨Or.inl rfl, hq⟩
            · rw [if_neg hc] at hq hp ⊢
              exact ⟨Or.inr rfl, hq⟩
        · rw [if_neg hc] at hq hp ⊢
          by_cases hc : (x2 - (2 * x1)) ≤ 0
          · rw [if_pos hc] at hq hp ⊢
            exact ⟨Or.inl rfl, hq⟩
          · rw [if_neg hc] at hq hp ⊢
            exact ⟨Or.inr rfl, hq⟩
    · rw [if_neg hc] at hq hp ⊢
      by_cases hc : x1 ≤ q0.2.2.2.1
      · rw [if_pos hc] at hq hp ⊢
        by_cases hc : x2 ≤ 0
        · rw [if_pos hc] at hq hp ⊢
          by_cases hc : (0 : Int32) ≤ x2
          · rw [if_pos hc] at hq hp ⊢
            by_cases hc : (q0.2.2.1 + x1) = 0
            · rw [if_pos hc] at hq hp ⊢
              exact ⟨Or.inr rfl, hq⟩
            · rw [if_neg hc] at hq hp ⊢
              exact ⟨Or.inl rfl, hq⟩
          · rw [if_neg hc] at hq hp ⊢
            by_cases hc : (0 : Int32) ≤ (x2 + (2 * x1))
            · rw [if_pos hc] at hq hp ⊢
              exact ⟨Or.inl rfl, hq⟩
            · rw [if_neg hc] at hq hp ⊢
              exact ⟨Or.inr rfl, hq⟩
        · rw [if_neg hc] at hq hp ⊢
          by_cases hc : (x2 - (2 * q0.2.2.1)) ≤ 0
          · rw [if_pos hc] at hq hp ⊢
            exact ⟨Or.inl rfl, hq⟩
          · rw [if_neg hc] at hq hp ⊢
            exact ⟨Or.inr rfl, hq⟩
      · rw [if_neg hc] at hq hp ⊢
        by_cases hc : x2 ≤ 0
        · rw [if_pos hc] at hq hp ⊢
          by_cases hc : (0 : Int32) ≤ x2
          · rw [if_pos hc] at hq hp ⊢
            by_cases hc : (q0.2.2.1 + q0.2.2.2.1) = 0
            · rw [if_pos hc] at hq hp ⊢
              exact ⟨Or.inr rfl, hq⟩
            · rw [if_neg hc] at hq hp ⊢
              exact ⟨Or.inl rfl, hq⟩
          · rw [if_neg hc] at hq hp ⊢
            by_cases hc : (0 : Int32) ≤ (x2 + (2 * q0.2.2.2.1))
            · rw [if_pos hc] at hq hp ⊢
              exact ⟨Or.inl rfl, hq⟩
            · rw [if_neg hc] at hq hp ⊢
              exact ⟨Or.inr rfl, hq⟩
        · rw [if_neg hc] at hq hp ⊢
          by_cases hc : (x2 - (2 * q0.2.2.1)) ≤ 0
          · rw [if_pos hc] at hq hp ⊢
            exact ⟨Or.inl rfl, hq⟩
          · rw [if_neg hc] at hq hp ⊢
            exact ⟨Or.inr rfl, hq⟩
