def lp_297_8 : Nat → Int32 → Int32 → (Nat → Nat → Int32) → (Nat → Nat → Int64) → Nat × Int32 × Int32 × (Nat → Nat → Int32) × (Nat → Nat → Int64)
  | 0, v1, v2, I, L => (0, 0, v2, I, L)
  | n + 1, v1, v2, I, L =>
    if (336 : Int32) ≤ v2 then
      (0, 0, v2, I, L)
    else
      lp_297_8 n v1 (v2 + 1) (am_u I 71 (Int32.toNatClampNeg v2) (I 73 (Int32.toNatClampNeg v2))) L
def lq_297_8 : Nat → Int32 → Int32 → (Nat → Nat → Int32) → (Nat → Nat → Int64) → Prop
  | 0, v1, v2, I, L => False
  | n + 1, v1, v2, I, L =>
    if (336 : Int32) ≤ v2 then
      True
    else
      ¬ (v2 < 0 ∨ 336 ≤ Int32.toNatClampNeg v2) ∧
      ¬ (v2 < 0 ∨ 378 ≤ Int32.toNatClampNeg v2) ∧
      lq_297_8 n v1 (v2 + 1) (am_u I 71 (Int32.toNatClampNeg v2) (I 73 (Int32.toNatClampNeg v2))) L
set_option maxRecDepth 100000 in
theorem sl_297_8 {S : am_S} {d N : Nat} {T : Nat → Nat × Nat} {r : Nat → Nat → Option Nat} {Q : am_Q} : ∀ (n : Nat) {v1 : Int32} {v2 : Int32} {I : Nat → Nat → Int32} {L : Nat → Nat → Int64} (hp : lq_297_8 n v1 v2 I L) (h0 : (lp_297_8 n v1 v2 I L).1 = 0 → am_E S 297 (d + 1) 0 0 33 [.ref 66, .int v1, .int (lp_297_8 n v1 v2 I L).2.2.1] [] (N, am_ts T, (lp_297_8 n v1 v2 I L).2.2.2.1, (lp_297_8 n v1 v2 I L).2.2.2.2, am_rs r) Q), am_E S 297 (d + 1) 0 0 8 [.ref 66, .int v1, .int v2] [] (N, am_ts T, I, L, am_rs r) Q
  | 0, _, _, _, _, hp, _ => hp.elim
  | n + 1, v1, v2, I, L, hp, h0 => by
    have ih := @sl_297_8 S d N T r Q n
    unfold lp_297_8 at h0
    unfold lq_297_8 at hp
    try dsimp only at h0 hp
    refine am_E.run [8, 33] 2000 (show (if (336 : Int32) ≤ v2 then (am_E S 297 (d + 1) 0 0 33 [.ref 66, .int v1, .int v2] [] (N, am_ts T, I, L, am_rs r) Q) else (if v2 < 0 ∨ 336 ≤ Int32.toNatClampNeg v2 then False else (if v2 < 0 ∨ 378 ≤ Int32.toNatClampNeg v2 then False else (am_E S 297 (d + 1) 0 0 8 [.ref 66, .int v1, .int (v2 + 1)] [] (N, am_ts T, (am_u I 71 (Int32.toNatClampNeg v2) (I 73 (Int32.toNatClampNeg v2))), L, am_rs r) Q)))) from ?_)
    by_cases hc : (336 : Int32) ≤ v2
    · rw [if_pos hc] at h0 hp ⊢
      exact h0 rfl
    · rw [if_neg hc] at h0 hp ⊢
      rw [if_neg hp.1]
      replace hp := hp.2
      rw [if_neg hp.1]
      replace hp := hp.2
      exact ih hp h0
def lp_297_35 : Nat → Int32 → Int32 → (Nat → Nat → Int32) → (Nat → Nat → Int64) → Nat × Int32 × Int32 × (Nat → Nat → Int32) × (Nat → Nat → Int64)
  | 0, v1, v2, I, L => (0, 0, v2, I, L)
  | n + 1, v1, v2, I, L =>
    if (16 : Int32) ≤ v2 then
      (0, 0, v2, I, L)
    else
      lp_297_35 n v1 (v2 + 1) (am_u I 72 (Int32.toNatClampNeg v2) (I 74 (Int32.toNatClampNeg v2))) L
def lq_297_35 : Nat → Int32 → Int32 → (Nat → Nat → Int32) → (Nat → Nat → Int64) → Prop
  | 0, v1, v2, I, L => False
  | n + 1, v1, v2, I, L =>
    if (16 : Int32) ≤ v2 then
      True
    else
      ¬ (v2 < 0 ∨ 16 ≤ Int32.toNatClampNeg v2) ∧
      ¬ (v2 < 0 ∨ 16 ≤ Int32.toNatClampNeg v2) ∧
      lq_297_35 n v1 (v2 + 1) (am_u I 72 (Int32.toNatClampNeg v2) (I 74 (Int32.toNatClampNeg v2))) L
set_option maxRecDepth 100000 in
theorem sl_297_35 {S : am_S} {d N : Nat} {T : Nat → Nat × Nat} {r : Nat → Nat → Option Nat} {Q : am_Q} : ∀ (n : Nat) {v1 : Int32} {v2 : Int32} {I : Nat → Nat → Int32} {L : Nat → Nat → Int64} (hp : lq_297_35 n v1 v2 I L) (h0 : (lp_297_35 n v1 v2 I L).1 = 0 → am_E S 297 (d + 1) 0 0 59 [.ref 66, .int v1, .int (lp_297_35 n v1 v2 I L).2.2.1] [] (N, am_ts T, (lp_297_35 n v1 v2 I L).2.2.2.1, (lp_297_35 n v1 v2 I L).2.2.2.2, am_rs r) Q), am_E S 297 (d + 1) 0 0 35 [.ref 66, .int v1, .int v2] [] (N, am_ts T, I, L, am_rs r) Q
  | 0, _, _, _, _, hp, _ => hp.elim
  | n + 1, v1, v2, I, L, hp, h0 => by
    have ih := @sl_297_35 S d N T r Q n
    unfold lp_297_35 at h0
    unfold lq_297_35 at hp
    try dsimp only at h0 hp
    refine am_E.run [35, 59] 2000 (show (if (16 : Int32) ≤ v2 then (am_E S 297 (d + 1) 0 0 59 [.ref 66, .int v1, .int v2] [] (N, am_ts T, I, L, am_rs r) Q) else (if v2 < 0 ∨ 16 ≤ Int32.toNatClampNeg v2 then False else (if v2 < 0 ∨ 16 ≤ Int32.toNatClampNeg v2 then False else (am_E S 297 (d + 1) 0 0 35 [.ref 66, .int v1, .int (v2 + 1)] [] (N, am_ts T, (am_u I 72 (Int32.toNatClampNeg v2) (I 74 (Int32.toNatClampNeg v2))), L, am_rs r) Q)))) from ?_)
    by_cases hc : (16 : Int32) ≤ v2
    · rw [if_pos hc] at h0 hp ⊢
      exact h0 rfl
    · rw [if_neg hc] at h0 hp ⊢
      rw [if_neg hp.1]
      replace hp := hp.2
      rw [if_neg hp.1]
      replace hp := hp.2
      exact ih hp h0
/-- KeyKeepersModel.giveBack(I)V -/
def f_297 (x0 : Int32) (I : Nat → Nat → Int32) (L : Nat → Nat → Int64) : Int32 × (Nat → Nat → Int32) × (Nat → Nat → Int64) :=
  let q0 := f_180 17 I L;
  let q1 := lp_297_8 am_fu x0 0 q0.2.1 q0.2.2;
  let q2 := lp_297_35 am_fu x0 0 q1.2.2.2.1 q1.2.2.2.2;
  (0, (am_u q2.2.2.2.1 66 8 x0), q2.2.2.2.2)
def p_297 (x0 : Int32) (I : Nat → Nat → Int32) (L : Nat → Nat → Int64) : Prop :=
  p_180 17 I L ∧
  (let q0 := f_180 17 I L;
    lq_297_8 am_fu x0 0 q0.2.1 q0.2.2 ∧
    (let q1 := lp_297_8 am_fu x0 0 q0.2.1 q0.2.2;
      lq_297_35 am_fu x0 0 q1.2.2.2.1 q1.2.2.2.2 ∧
      (let q2 := lp_297_35 am_fu x0 0 q1.2.2.2.1 q1.2.2.2.2;
        True)))
set_option maxRecDepth 100000 in
theorem s_297 {S : am_S} {d N : Nat} {T : Nat → Nat × Nat} {I : Nat → Nat → Int32} {L : Nat → Nat → Int64} {r : Nat → Nat → Option Nat} {Q : am_Q} {x0 : Int32} (hp : p_297 x0 I L) (hq : Q (none) (N, am_ts T, (f_297 x0 I L).2.1, (f_297 x0 I L).2.2, am_rs r)) : am_E S 297 (d + 1) 0 0 0 [.ref 66, .int x0, am_jk] [] (N, am_ts T, I, L, am_rs r) Q := by
  unfold f_297 at hq
  unfold p_297 at hp
  try dsimp only at hq hp
  refine am_E.run [3] 2000 (show (am_E S 297 (d + 1) 0 0 3 [.ref 66, .int x0, am_jk] [.int 17, .ref 66] (N, am_ts T, I, L, am_rs r) Q) from ?_)
  refine am_E.go ⟨fun v h9 => v = none ∧ h9 = (N, am_ts T, (f_180 17 I L).2.1, (f_180 17 I L).2.2, am_rs r), s_180 hp.1 ⟨rfl, rfl⟩, ?_⟩
  replace hp := hp.2
  intro v h9 hv
  obtain ⟨rfl, rfl⟩ := hv
  generalize he_q0 : f_180 17 I L = q0 at hq hp ⊢
  refine am_E.run [8] 2000 (show (am_E S 297 (d + 1) 0 0 8 [.ref 66, .int x0, .int 0] [] (N, am_ts T, q0.2.1, q0.2.2, am_rs r) Q) from ?_)
  refine sl_297_8 am_fu hp.1 (fun hk => ?_)
  · replace hp := hp.2
    generalize he_q1 : lp_297_8 am_fu x0 0 q0.2.1 q0.2.2 = q1 at hq hp hk ⊢
    refine am_E.run [35] 2000 (show (am_E S 297 (d + 1) 0 0 35 [.ref 66, .int x0, .int 0] [] (N, am_ts T, q1.2.2.2.1, q1.2.2.2.2, am_rs r) Q) from ?_)
    refine sl_297_35 am_fu hp.1 (fun hk => ?_)
    · replace hp := hp.2
      generalize he_q2 : lp_297_35 am_fu x0 0 q1.2.2.2.1 q1.2.2.2.2 = q2 at hq hp hk ⊢
      refine am_E.run [] 2000 (show (True ∧ Q (none) (N, am_ts T, (am_u q2.2.2.2.1 66 8 x0), q2.2.2.2.2, am_rs r)) from ?_)
      exact ⟨trivial, hq⟩
/-- KeyKeepersModel.stopped()I -/
def f_298 (I : Nat → Nat → Int32) (L : Nat → Nat → Int64) : Int32 × (Nat → Nat → Int32) × (Nat → Nat → Int64) :=
  ((I 66 56), (am_u I 66 0 0), L)
set_option maxRecDepth 100000 in
theorem s_298 {S : am_S} {d N : Nat} {T : Nat → Nat × Nat} {I : Nat → Nat → Int32} {L : Nat → Nat → Int64} {r : Nat → Nat → Option Nat} {Q : am_Q} (hq : Q (some (.int (f_298 I L).1)) (N, am_ts T, (f_298 I L).2.1, (f_298 I L).2.2, am_rs r)) : am_E S 298 (d + 0) 0 0 0 [.ref 66] [] (N, am_ts T, I, L, am_rs r) Q := by
  unfold f_298 at hq
  try dsimp only at hq
  refine am_E.run [] 2000 (show (True ∧ Q (some (.int (I 66 56))) (N, am_ts T, (am_u I 66 0 0), L, am_rs r)) from ?_)
  exact ⟨trivial, hq⟩
/-- KeyKeepersModel.draw(I)I -/
def f_300 (x0 : Int32) (I : Nat → Nat → Int32) (L : Nat → Nat → Int64) : Int32 × (Nat → Nat → Int32) × (Nat → Nat → Int64) :=
  ((Int64.toInt32 (((((L 66 58) * 1103) + 12345) - (((L 66 58) * 1103) + 12345) / 1000003 * 1000003) - ((((L 66 58) * 1103) + 12345) - (((L 66 58) * 1103) + 12345) / 1000003 * 1000003) / (Int32.toInt64 x0) * (Int32.toInt64 x0))), I, (am_u L 66 58 ((((L 66 58) * 1103) + 12345) - (((L 66 58) * 1103) + 12345) / 1000003 * 1000003)))
def p_300 (x0 : Int32) (I : Nat → Nat → Int32) (L : Nat → Nat → Int64) : Prop :=
  ¬ ((Int32.toInt64 x0) = 0) ∧
  True
set_option maxRecDepth 100000 in
theorem s_300 {S : am_S} {d N : Nat} {T : Nat → Nat × Nat} {I : Nat → Nat → Int32} {L : Nat → Nat → Int64} {r : Nat → Nat → Option Nat} {Q : am_Q} {x0 : Int32} (hp : p_300 x0 I L) (hq : Q (some (.int (f_300 x0 I L).1)) (N, am_ts T, (f_300 x0 I L).2.1, (f_300 x0 I L).2.2, am_rs r)) : am_E S 300 (d + 0) 0 0 0 [.ref 66, .int x0] [] (N, am_ts T, I, L, am_rs r) Q := by
  unfold f_300 at hq
  unfold p_300 at hp
  try dsimp only at hq hp
  refine am_E.run [] 2000 (show (if (Int32.toInt64 x0) = 0 then False else (True ∧ Q (some (.int (Int64.toInt32 (((((L 66 58) * 1103) + 12345) - (((L 66 58) * 1103) + 12345) / 1000003 * 1000003) - ((((L 66 58) * 1103) + 12345) - (((L 66 58) * 1103) + 12345) / 1000003 * 1000003) / (Int32.toInt64 x0) * (Int32.toInt64 x0))))) (N, am_ts T, I, (am_u L 66 58 ((((L 66 58) * 1103) + 12345) - (((L 66 58) * 1103) + 12345) / 1000003 * 1000003)), am_rs r))) from ?_)
  rw [if_neg hp.1]
  replace hp := hp.2
  exact ⟨trivial, hq⟩
/-- KeyKeepersModel.drawn(II)I -/
def f_301 (x0 : Int32) (x1 : Int32) (I : Nat → Nat → Int32) (L : Nat → Nat → Int64) : Int32 × (Nat → Nat → Int32) × (Nat → Nat → Int64) :=
  if (I 66 61) = (-1) then
    ((-1), (am_u I 66 0 0), L)
  else
    let q0 := f_182 (Int32.toInt64 x1) 0 1;
    if q0 = 0 then
      ((-1), (am_u I 66 0 0), L)
    else
      if x1 = 0 then
        let q1 := f_182 (Int32.toInt64 x0) 0 ((Int32.toInt64 (I 66 61)) - 1);
        if q1 = 0 then
          ((-1), (am_u I 66 0 0), L)
        else
          if x1 = 0 then
            ((I 98 (Int32.toNatClampNeg x0)), (am_u I 66 0 0), L)
          else
            ((I 66 60), (am_u I 66 0 0), L)
      else
        if x1 = 0 then
          ((I 98 (Int32.toNatClampNeg x0)), (am_u I 66 0 0), L)
        else
          ((I 66 60), (am_u I 66 0 0), L)
def p_301 (x0 : Int32) (x1 : Int32) (I : Nat → Nat → Int32) (L : Nat → Nat → Int64) : Prop :=
  if (I 66 61) = (-1) then
    True
  else
    (let q0 := f_182 (Int32.toInt64 x1) 0 1;
      if q0 = 0 then
        True
      else
        if x1 = 0 then
          (let q1 := f_182 (Int32.toInt64 x0) 0 ((Int32.toInt64 (I 66 61)) - 1);
            if q1 = 0 then
              True
            else
              if x1 = 0 then
                ¬ (x0 < 0 ∨ 8 ≤ Int32.toNatClampNeg x0) ∧
                True
              else
                True)
        else
          if x1 = 0 then
            ¬ (x0 < 0 ∨ 8 ≤ Int32.toNatClampNeg x0) ∧
            True
          else
            True)
set_option maxRecDepth 100000 in
theorem s_301 {S : am_S} {d N : Nat} {T : Nat → Nat × Nat} {I : Nat → Nat → Int32} {L : Nat → Nat → Int64} {r : Nat → Nat → Option Nat} {Q : am_Q} {x0 : Int32} {x1 : Int32} (hp : p_301 x0 x1 I L) (hq : Q (some (.int (f_301 x0 x1 I L).1)) (N, am_ts T, (f_301 x0 x1 I L).2.1, (f_301 x0 x1 I L).2.2, am_rs r)) : am_E S 301 (d + 1) 0 0 0 [.ref 66, .int x0, .int x1] [] (N, am_ts T, I, L, am_rs r) Q := by
  unfold f_301 at hq
  unfold p_301 at hp
  try dsimp only at hq hp
  refine am_E.run [17] 2000 (show (if (I 66 61) = (-1) then (True ∧ Q (some (.int (-1))) (N, am_ts T, (am_u I 66 0 0), L, am_rs r)) else (am_E S 301 (d + 1) 0 0 17 [.ref 66, .int x0, .int x1] [.long 1, .long 0, .long (Int32.toInt64 x1)] (N, am_ts T, (am_u I 66 0 0), L, am_rs r) Q)) from ?_)
  by_cases hc : (I 66 61) = (-1)
  · rw [if_pos hc] at hq hp ⊢
    exact ⟨trivial, hq⟩
  · rw [if_neg hc] at hq hp ⊢
    refine am_E.go ⟨fun v h9 => v = some (.int (f_182 (Int32.toInt64 x1) 0 1)) ∧ h9 = (N, am_ts T, (am_u I 66 0 0), L, am_rs r), s_182 ⟨rfl, rfl⟩, ?_⟩
    intro v h9 hv
    obtain ⟨rfl, rfl⟩ := hv
    generalize he_q0 : f_182 (Int32.toInt64 x1) 0 1 = q0 at hq hp ⊢
    refine am_E.run [37] 2000 (show (if q0 = 0 then (True ∧ Q (some (.int (-1))) (N, am_ts T, (am_u I 66 0 0), L, am_rs r)) else (if x1 = 0 then (am_E S 301 (d + 1) 0 0 37 [.ref 66, .int x0, .int x1] [.long ((Int32.toInt64 (I 66 61)) - 1), .long 0, .long (Int32.toInt64 x0)] (N, am_ts T, (am_u I 66 0 0), L, am_rs r) Q) else (if x1 = 0 then (if x0 < 0 ∨ 8 ≤ Int32.toNatClampNeg x0 then False else (True ∧ Q (some (.int (I 98 (Int32.toNatClampNeg x0)))) (N, am_ts T, (am_u I 66 0 0), L, am_rs r))) else (True ∧ Q (some (.int (I 66 60))) (N, am_ts T, (am_u I 66 0 0), L, am_rs r))))) from ?_)
    by_cases hc : q0 = 0
    · rw [if_pos hc] at hq hp ⊢
      exact ⟨trivial, hq⟩
    · rw [if_neg hc] at hq hp ⊢
      by_cases hc : x1 = 0
      · rw [if_pos hc] at hq hp ⊢
        refine am_E.go ⟨fun v h9 => v = some (.int (f_182 (Int32.toInt64 x0) 0 ((Int32.toInt64 (I 66 61)) - 1))) ∧ h9 = (N, am_ts T, (am_u I 66 0 0), L, am_rs r), s_182 ⟨rfl, rfl⟩, ?_⟩
        intro v h9 hv
        obtain ⟨rfl, rfl⟩ := hv
        generalize he_q1 : f_182 (Int32.toInt64 x0) 0 ((Int32.toInt64 (I 66 61)) - 1) = q1 at hq hp ⊢
        refine am_E.run [] 2000 (show (if q1 = 0 then (True ∧ Q (some (.int (-1))) (N, am_ts T, (am_u I 66 0 0), L, am_rs r)) else (if x1 = 0 then (if x0 < 0 ∨ 8 ≤ Int32.toNatClampNeg x0 then False else (True ∧ Q (some (.int (I 98 (Int32.toNatClampNeg x0)))) (N, am_ts T, (am_u I 66 0 0), L, am_rs r))) else (True ∧ Q (some (.int (I 66 60))) (N, am_ts T, (am_u I 66 0 0), L, am_rs r)))) from ?_)
        by_cases hc : q1 = 0
        · rw [if_pos hc] at hq hp ⊢
          exact ⟨trivial, hq⟩
        · rw [if_neg hc] at hq hp ⊢
          by_cases hc : x1 = 0
          · rw [if_pos hc] at hq hp ⊢
            rw [if_neg hp.1]
            replace hp := hp.2
            exact ⟨trivial, hq⟩
          · rw [if_neg hc] at hq hp ⊢
            exact ⟨trivial, hq⟩
      · rw [if_neg hc] at hq hp ⊢
        by_cases hc : x1 = 0
        · rw [if_pos hc] at hq hp ⊢
          rw [if_neg hp.1]
          replace hp := hp.2
          exact ⟨trivial, hq⟩
        · rw [if_neg hc] at hq hp ⊢
          exact ⟨trivial, hq⟩
/-- KeyKeepersModel.status()I -/
def f_303 (I : Nat → Nat → Int32) (L : Nat → Nat → Int64) : Int32 × (Nat → Nat → Int32) × (Nat → Nat → Int64) :=
  ((I 66 1), (am_u I 66 0 0), L)
set_option maxRecDepth 100000 in
theorem s_303 {S : am_S} {d N : Nat} {T : Nat → Nat × Nat} {I : Nat → Nat → Int32} {L : Nat → Nat → Int64} {r : Nat → Nat → Option Nat} {Q : am_Q} (hq : Q (some (.int (f_303 I L).1)) (N, am_ts T, (f_303 I L).2.1, (f_303 I L).2.2, am_rs r)) : am_E S 303 (d + 0) 0 0 0 [.ref 66] [] (N, am_ts T, I, L, am_rs r) Q := by
  unfold f_303 at hq
  try dsimp only at hq
  refine am_E.run [] 2000 (show (True ∧ Q (some (.int (I 66 1))) (N, am_ts T, (am_u I 66 0 0), L, am_rs r)) from ?_)
  exact ⟨trivial, hq⟩
/-- KeyKeepers.isPlace(I)Z -/
def f_12 (x0 : Int32) : Int32 :=
  let q0 := f_13 x0 0 9;
  q0
def p_12 (x0 : Int32) : Prop :=
  (let q0 := f_13 x0 0 9;
    (q0 = 0 ∨ q0 = 1))
set_option maxRecDepth 100000 in
theorem s_12 {S : am_S} {d N : Nat} {T : Nat → Nat × Nat} {I : Nat → Nat → Int32} {L : Nat → Nat → Int64} {r : Nat → Nat → Option Nat} {Q : am_Q} {x0 : Int32} (hp : p_12 x0) (hq : Q (some (.int (f_12 x0))) (N, am_ts T, I, L, am_rs r)) : am_E S 12 (d + 1) 0 0 0 [.int x0] [] (N, am_ts T, I, L, am_rs r) Q := by
  unfold f_12 at hq
  unfold p_12 at hp
  try dsimp only at hq hp
  refine am_E.run [4] 2000 (show (am_E S 12 (d + 1) 0 0 4 [.int x0] [.int 9, .int 0, .int x0] (N, am_ts T, I, L, am_rs r) Q) from ?_)
  refine am_E.go ⟨fun v h9 => v = some (.int (f_13 x0 0 9)) ∧ h9 = (N, am_ts T, I, L, am_rs r), s_13 ⟨rfl, rfl⟩, ?_⟩
  intro v h9 hv
  obtain ⟨rfl, rfl⟩ := hv
  generalize he_q0 : f_13 x0 0 9 = q0 at hq hp ⊢
  refine am_E.run [] 2000 (show ((q0 = 0 ∨ q0 = 1) ∧ Q (some (.int q0)) (N, am_ts T, I, L, am_rs r)) from ?_)
  exact ⟨hp, hq⟩
/-- KeyKeepers.wall(II)I -/
def f_17 (x0 : Int32) (x1 : Int32) (I : Nat → Nat → Int32) (L : Nat → Nat → Int64) : Int32 × (Nat → Nat → Int32) × (Nat → Nat → Int64) :=
  let q0 := f_18 x1;
  if q0 = 0 then
    let q6 := f_14 (-1) I L;
    (q6.1, q6.2.1, q6.2.2)
  else
    let q1 := f_19 x0 I;
    if q1 = 0 then
      let q5 := f_14 (-2) I L;
      (q5.1, q5.2.1, q5.2.2)
    else
      let q2 := f_20 (I 1 3) x0;
      let q3 := f_21 (I 1 3) x0 x1;
      let q4 := f_16 q2 (am_u I 1 3 q3) L;
      (q4.1, q4.2.1, q4.2.2)
def p_17 (x0 : Int32) (x1 : Int32) (I : Nat → Nat → Int32) (L : Nat → Nat → Int64) : Prop :=
  (let q0 := f_18 x1;
    if q0 = 0 then
      p_14 (-1) I L ∧
      (let q6 := f_14 (-1) I L;
        True)
    else
      (let q1 := f_19 x0 I;
        if q1 = 0 then
          p_14 (-2) I L ∧
          (let q5 := f_14 (-2) I L;
            True)
        else
          True))
set_option maxRecDepth 100000 in
theorem s_17 {S : am_S} {d N : Nat} {T : Nat → Nat × Nat} {I : Nat → Nat → Int32} {L : Nat → Nat → Int64} {r : Nat → Nat → Option Nat} {Q : am_Q} {x0 : Int32} {x1 : Int32} (hp : p_17 x0 x1 I L) (hq : Q (some (.int (f_17 x0 x1 I L).1)) (N, am_ts T, (f_17 x0 x1 I L).2.1, (f_17 x0 x1 I L).2.2, am_rs r)) : am_E S 17 (d + 1) 0 0 0 [.ref 0, .int x0, .int x1, am_jk] [] (N, am_ts T, I, L, am_rs r) Q := by
  unfold f_17 at hq
  unfold p_17 at hp
  try dsimp only at hq hp
  refine am_E.run [1] 2000 (show (am_E S 17 (d + 1) 0 0 1 [.ref 0, .int x0, .int x1, am_jk] [.int x1] (N, am_ts T, I, L, am_rs r) Q) from ?_)
  refine am_E.go ⟨fun v h9 => v = some (.int (f_18 x1)) ∧ h9 = (N, am_ts T, I, L, am_rs r), s_18 ⟨rfl, rfl⟩, ?_⟩
  intro v h9 hv
  obtain ⟨rfl, rfl⟩ := hv
  generalize he_q0 : f_18 x1 = q0 at hq hp ⊢
  refine am_E.run [9, 18] 2000 (show (if q0 = 0 then (am_E S 17 (d + 1) 0 0 9 [.ref 0, .int x0, .int x1, am_jk] [.int (-1), .ref 0] (N, am_ts T, I, L, am_rs r) Q) else (am_E S 17 (d + 1) 0 0 18 [.ref 0, .int x0, .int x1, am_jk] [.int x0, .ref 1] (N, am_ts T, I, L, am_rs r) Q)) from ?_)
  by_cases hc : q0 = 0
  · rw [if_pos hc] at hq hp ⊢
    refine am_E.go ⟨fun v h9 => v = some (.int (f_14 (-1) I L).1) ∧ h9 = (N, am_ts T, (f_14 (-1) I L).2.1, (f_14 (-1) I L).2.2, am_rs r), s_14 hp.1 ⟨rfl, rfl⟩, ?_⟩
    replace hp := hp.2
    intro v h9 hv
    obtain ⟨rfl, rfl⟩ := hv
    generalize he_q6 : f_14 (-1) I L = q6 at hq ⊢
    refine am_E.run [] 2000 (show (True ∧ Q (some (.int q6.1)) (N, am_ts T, q6.2.1, q6.2.2, am_rs r)) from ?_)
    exact ⟨trivial, hq⟩
  · rw [if_neg hc] at hq hp ⊢
    refine am_E.go ⟨fun v h9 => v = some (.int (f_19 x0 I)) ∧ h9 = (N, am_ts T, I, L, am_rs r), s_19 ⟨rfl, rfl⟩, ?_⟩
    intro v h9 hv
    obtain ⟨rfl, rfl⟩ := hv
    generalize he_q1 : f_19 x0 I = q1 at hq hp ⊢
    refine am_E.run [27, 39] 2000 (show (if q1 = 0 then (am_E S 17 (d + 1) 0 0 27 [.ref 0, .int x0, .int x1, am_jk] [.int (-2), .ref 0] (N, am_ts T, I, L, am_rs r) Q) else (am_E S 17 (d + 1) 0 0 39 [.ref 0, .int x0, .int x1, am_jk] [.int x0, .int (I 1 3)] (N, am_ts T, I, L, am_rs r) Q)) from ?_)
    by_cases hc : q1 = 0
    · rw [if_pos hc] at hq hp ⊢
      refine am_E.go ⟨fun v h9 => v = some (.int (f_14 (-2) I L).1) ∧ h9 = (N, am_ts T, (f_14 (-2) I L).2.1, (f_14 (-2) I L).2.2, am_rs r), s_14 hp.1 ⟨rfl, rfl⟩, ?_⟩
      replace hp := hp.2
      intro v h9 hv
      obtain ⟨rfl, rfl⟩ := hv
      generalize he_q5 : f_14 (-2) I L = q5 at hq ⊢
      refine am_E.run [] 2000 (show (True ∧ Q (some (.int q5.1)) (N, am_ts T, q5.2.1, q5.2.2, am_rs r)) from ?_)
      exact ⟨trivial, hq⟩
    · rw [if_neg hc] at hq hp ⊢
      refine am_E.go ⟨fun v h9 => v = some (.int (f_20 (I 1 3) x0)) ∧ h9 = (N, am_ts T, I, L, am_rs r), s_20 ⟨rfl, rfl⟩, ?_⟩
      intro v h9 hv
      obtain ⟨rfl, rfl⟩ := hv
      generalize he_q2 : f_20 (I 1 3) x0 = q2 at hq ⊢
      refine am_E.run [56] 2000 (show (am_E S 17 (d + 1) 0 0 56 [.ref 0, .int x0, .int x1, .int q2] [.int x1, .int x0, .int (I 1 3), .ref 1] (N, am_ts T, I, L, am_rs r) Q) from ?_)
      refine am_E.go ⟨fun v h9 => v = some (.int (f_21 (I 1 3) x0 x1)) ∧ h9 = (N, am_ts T, I, L, am_rs r), s_21 ⟨rfl, rfl⟩, ?_⟩
      intro v h9 hv
      obtain ⟨rfl, rfl⟩ := hv
      generalize he_q3 : f_21 (I 1 3) x0 x1 = q3 at hq ⊢
      refine am_E.run [64] 2000 (show (am_E S 17 (d + 1) 0 0 64 [.ref 0, .int x0, .int x1, .int q2] [.int q2, .ref 0] (N, am_ts T, (am_u I 1 3 q3), L, am_rs r) Q) from ?_)
      refine am_E.go ⟨fun v h9 => v = some (.int (f_16 q2 (am_u I 1 3 q3) L).1) ∧ h9 = (N, am_ts T, (f_16 q2 (am_u I 1 3 q3) L).2.1, (f_16 q2 (am_u I 1 3 q3) L).2.2, am_rs r), s_16 ⟨rfl, rfl⟩, ?_⟩
      intro v h9 hv
      obtain ⟨rfl, rfl⟩ := hv
      generalize he_q4 : f_16 q2 (am_u I 1 3 q3) L = q4 at hq ⊢
      refine am_E.run [] 2000 (show (True ∧ Q (some (.int q4.1)) (N, am_ts T, q4.2.1, q4.2.2, am_rs r)) from ?_)
      exact ⟨trivial, hq⟩
/-- KeyKeepers.canBePrisoner(III)Z -/
def f_23 (x0 : Int32) (x1 : Int32) (x2 : Int32) : Int32 :=
  let q0 := f_13 x0 1 99;
  if q0 = 0 then
    0
  else
    let q1 := f_13 x1 0 9;
    if q1 = 0 then
      0
    else
      let q2 := f_12 x2;
      if q2 = 0 then
        0
      else
        if x2 = 0 then
          0
        else
          1
def p_23 (x0 : Int32) (x1 : Int32) (x2 : Int32) : Prop :=
  (let q0 := f_13 x0 1 99;
    if q0 = 0 then
      True
    else
      (let q1 := f_13 x1 0 9;
        if q1 = 0 then
          True
        else
          p_12 x2 ∧
          (let q2 := f_12 x2;
            True)))
set_option maxRecDepth 100000 in
theorem s_23 {S : am_S} {d N : Nat} {T : Nat → Nat × Nat} {I : Nat → Nat → Int32} {L : Nat → Nat → Int64} {r : Nat → Nat → Option Nat} {Q : am_Q} {x0 : Int32} {x1 : Int32} {x2 : Int32} (hp : p_23 x0 x1 x2) (hq : Q (some (.int (f_23 x0 x1 x2))) (N, am_ts T, I, L, am_rs r)) : am_E S 23 (d + 2) 0 0 0 [.int x0, .int x1, .int x2] [] (N, am_ts T, I, L, am_rs r) Q := by
  unfold f_23 at hq
  unfold p_23 at hp
  try dsimp only at hq hp
  refine am_E.run [4] 2000 (show (am_E S 23 (d + 2) 0 0 4 [.int x0, .int x1, .int x2] [.int 99, .int 1, .int x0] (N, am_ts T, I, L, am_rs r) Q) from ?_)
  refine am_E.go ⟨fun v h9 => v = some (.int (f_13 x0 1 99)) ∧ h9 = (N, am_ts T, I, L, am_rs r), s_13 ⟨rfl, rfl⟩, ?_⟩
  intro v h9 hv
  obtain ⟨rfl, rfl⟩ := hv
  generalize he_q0 : f_13 x0 1 99 = q0 at hq hp ⊢
  refine am_E.run [14] 2000 (show (if q0 = 0 then (((0 : Int32) = 0 ∨ (0 : Int32) = 1) ∧ Q (some (.int 0)) (N, am_ts T, I, L, am_rs r)) else (am_E S 23 (d + 2) 0 0 14 [.int x0, .int x1, .int x2] [.int 9, .int 0, .int x1] (N, am_ts T, I, L, am_rs r) Q)) from ?_)
  by_cases hc : q0 = 0
  · rw [if_pos hc] at hq hp ⊢
    exact ⟨Or.inl rfl, hq⟩
  · rw [if_neg hc] at hq hp ⊢
    refine am_E.go ⟨fun v h9 => v = some (.int (f_13 x1 0 9)) ∧ h9 = (N, am_ts T, I, L, am_rs r), s_13 ⟨rfl, rfl⟩, ?_⟩
    intro v h9 hv
    obtain ⟨rfl, rfl⟩ := hv
    generalize he_q1 : f_13 x1 0 9 = q1 at hq hp ⊢
    refine am_E.run [21] 2000 (show (if q1 = 0 then (((0 : Int32) = 0 ∨ (0 : Int32) = 1) ∧ Q (some (.int 0)) (N, am_ts T, I, L, am_rs r)) else (am_E S 23 (d + 2) 0 0 21 [.int x0, .int x1, .int x2] [.int x2] (N, am_ts T, I, L, am_rs r) Q)) from ?_)
    by_cases hc : q1 = 0
    · rw [if_pos hc] at hq hp ⊢
      exact ⟨Or.inl rfl, hq⟩
    · rw [if_neg hc] at hq hp ⊢
      refine am_E.go ⟨fun v h9 => v = some (.int (f_12 x2)) ∧ h9 = (N, am_ts T, I, L, am_rs r), s_12 hp.1 ⟨rfl, rfl⟩, ?_⟩
      replace hp := hp.2
      intro v h9 hv
      obtain ⟨rfl, rfl⟩ := hv
      generalize he_q2 : f_12 x2 = q2 at hq ⊢
      refine am_E.run [] 2000 (show (if q2 = 0 then (((0 : Int32) = 0 ∨ (0 : Int32) = 1) ∧ Q (some (.int 0)) (N, am_ts T, I, L, am_rs r)) else (if x2 = 0 then (((0 : Int32) = 0 ∨ (0 : Int32) = 1) ∧ Q (some (.int 0)) (N, am_ts T, I, L, am_rs r)) else (((1 : Int32) = 0 ∨ (1 : Int32) = 1) ∧ Q (some (.int 1)) (N, am_ts T, I, L, am_rs r)))) from ?_)
      by_cases hc : q2 = 0
      · rw [if_pos hc] at hq ⊢
        exact ⟨Or.inl rfl, hq⟩
      · rw [if_neg hc] at hq ⊢
        by_cases hc : x2 = 0
        · rw [if_pos hc] at hq ⊢
          exact ⟨Or.inl rfl, hq⟩
        · rw [if_neg hc] at hq ⊢
          exact ⟨Or.inr rfl, hq⟩
/-- KeyKeepers.admit(III)Z -/
def f_36 (x0 : Int32) (x1 : Int32) (x2 : Int32) (I : Nat → Nat → Int32) (L : Nat → Nat → Int64) : Int32 × (Nat → Nat → Int32) × (Nat → Nat → Int64) :=
  if (8 : Int32) ≤ (I 1 10) then
    (0, I, L)
  else
    let q0 := f_23 x0 x1 x2;
    if q0 = 0 then
      (0, I, L)
    else
      let q1 := f_25 x0 x1 x2 I L;
      (1, q1.2.1, q1.2.2)
def p_36 (x0 : Int32) (x1 : Int32) (x2 : Int32) (I : Nat → Nat → Int32) (L : Nat → Nat → Int64) : Prop :=
  if (8 : Int32) ≤ (I 1 10) then
    True
  else
    p_23 x0 x1 x2 ∧
    (let q0 := f_23 x0 x1 x2;
      if q0 = 0 then
        True
      else
        p_25 x0 x1 x2 I L ∧
        (let q1 := f_25 x0 x1 x2 I L;
          True))
set_option maxRecDepth 100000 in
theorem s_36 {S : am_S} {d N : Nat} {T : Nat → Nat × Nat} {I : Nat → Nat → Int32} {L : Nat → Nat → Int64} {r : Nat → Nat → Option Nat} {Q : am_Q} {x0 : Int32} {x1 : Int32} {x2 : Int32} (hp : p_36 x0 x1 x2 I L) (hq : Q (some (.int (f_36 x0 x1 x2 I L).1)) (N, am_ts T, (f_36 x0 x1 x2 I L).2.1, (f_36 x0 x1 x2 I L).2.2, am_rs r)) : am_E S 36 (d + 3) 0 0 0 [.ref 0, .int x0, .int x1, .int x2] [] (N, am_ts T, I, L, am_rs r) Q := by
  unfold f_36 at hq
  unfold p_36 at hp
  try dsimp only at hq hp
  refine am_E.run [15] 2000 (show (if (8 : Int32) ≤ (I 1 10) then (((0 : Int32) = 0 ∨ (0 : Int32) = 1) ∧ Q (some (.int 0)) (N, am_ts T, I, L, am_rs r)) else (am_E S 36 (d + 3) 0 0 15 [.ref 0, .int x0, .int x1, .int x2] [.int x2, .int x1, .int x0] (N, am_ts T, I, L, am_rs r) Q)) from ?_)
  by_cases hc : (8 : Int32) ≤ (I 1 10)
  · rw [if_pos hc] at hq hp ⊢
    exact ⟨Or.inl rfl, hq⟩
  · rw [if_neg hc] at hq hp ⊢
    refine am_E.go ⟨fun v h9 => v = some (.int (f_23 x0 x1 x2)) ∧ h9 = (N, am_ts T, I, L, am_rs r), s_23 hp.1 ⟨rfl, rfl⟩, ?_⟩
    replace hp := hp.2
    intro v h9 hv
    obtain ⟨rfl, rfl⟩ := hv
    generalize he_q0 : f_23 x0 x1 x2 = q0 at hq hp ⊢
    refine am_E.run [30] 2000 (show (if q0 = 0 then (((0 : Int32) = 0 ∨ (0 : Int32) = 1) ∧ Q (some (.int 0)) (N, am_ts T, I, L, am_rs r)) else (am_E S 36 (d + 3) 0 0 30 [.ref 0, .int x0, .int x1, .int x2] [.int x2, .int x1, .int x0, .ref 1] (N, am_ts T, I, L, am_rs r) Q)) from ?_)
    by_cases hc : q0 = 0
    · rw [if_pos hc] at hq hp ⊢
      exact ⟨Or.inl rfl, hq⟩
    · rw [if_neg hc] at hq hp ⊢
      refine am_E.go ⟨fun v h9 => v = some (.int (f_25 x0 x1 x2 I L).1) ∧ h9 = (N, am_ts T, (f_25 x0 x1 x2 I L).2.1, (f_25 x0 x1 x2 I L).2.2, am_rs r), s_25 hp.1 ⟨rfl, rfl⟩, ?_⟩
      replace hp := hp.2
      intro v h9 hv
      obtain ⟨rfl, rfl⟩ := hv
      generalize he_q1 : f_25 x0 x1 x2 I L = q1 at hq ⊢
      refine am_E.run [] 2000 (show (((1 : Int32) = 0 ∨ (1 : Int32) = 1) ∧ Q (some (.int 1)) (N, am_ts T, q1.2.1, q1.2.2, am_rs r)) from ?_)
      exact ⟨Or.inr rfl, hq⟩
def lp_41_54 : Nat → Int32 → Int32 → (Nat → Nat → Int32) → (Nat → Nat → Int64) → Nat × Int32 × Int32
  | 0, v1, v2, I, L => (0, 0, v2)
  | n + 1, v1, v2, I, L =>
    if (I 14 1) ≤ v2 then
      (0, 0, v2)
    else
      let q2 := f_43 (I 15 (Int32.toNatClampNeg v2));
      if q2 = 0 then
        (0, 0, v2)
      else
        lp_41_54 n v1 (v2 + 1) I L
def lq_41_54 : Nat → Int32 → Int32 → (Nat → Nat → Int32) → (Nat → Nat → Int64) → Prop
  | 0, v1, v2, I, L => False
  | n + 1, v1, v2, I, L =>
    if (I 14 1) ≤ v2 then
      True
    else
      ¬ (v2 < 0 ∨ 400 ≤ Int32.toNatClampNeg v2) ∧
      (let q2 := f_43 (I 15 (Int32.toNatClampNeg v2));
        if q2 = 0 then
          True
        else
          lq_41_54 n v1 (v2 + 1) I L)
set_option maxRecDepth 100000 in
theorem sl_41_54 {S : am_S} {d N : Nat} {T : Nat → Nat × Nat} {r : Nat → Nat → Option Nat} {Q : am_Q} : ∀ (n : Nat) {v1 : Int32} {v2 : Int32} {I : Nat → Nat → Int32} {L : Nat → Nat → Int64} (hp : lq_41_54 n v1 v2 I L) (h0 : (lp_41_54 n v1 v2 I L).1 = 0 → am_E S 41 (d + 1) 0 0 80 [.ref 14, .int v1, .int (lp_41_54 n v1 v2 I L).2.2] [] (N, am_ts T, I, L, am_rs r) Q), am_E S 41 (d + 1) 0 0 54 [.ref 14, .int v1, .int v2] [] (N, am_ts T, I, L, am_rs r) Q
  | 0, _, _, _, _, hp, _ => hp.elim
  | n + 1, v1, v2, I, L, hp, h0 => by
    have ih := @sl_41_54 S d N T r Q n
    unfold lp_41_54 at h0
    unfold lq_41_54 at hp
    try dsimp only at h0 hp
    refine am_E.run [68, 80] 2000 (show (if (I 14 1) ≤ v2 then (am_E S 41 (d + 1) 0 0 80 [.ref 14, .int v1, .int v2] [] (N, am_ts T, I, L, am_rs r) Q) else (if v2 < 0 ∨ 400 ≤ Int32.toNatClampNeg v2 then False else (am_E S 41 (d + 1) 0 0 68 [.ref 14, .int v1, .int v2] [.int (I 15 (Int32.toNatClampNeg v2))] (N, am_ts T, I, L, am_rs r) Q))) from ?_)
    by_cases hc : (I 14 1) ≤ v2
    · rw [if_pos hc] at h0 hp ⊢
      exact h0 rfl
    · rw [if_neg hc] at h0 hp ⊢
      rw [if_neg hp.1]
      replace hp := hp.2
      refine am_E.go ⟨fun v h9 => v = some (.int (f_43 (I 15 (Int32.toNatClampNeg v2)))) ∧ h9 = (N, am_ts T, I, L, am_rs r), s_43 ⟨rfl, rfl⟩, ?_⟩
      intro v h9 hv
      obtain ⟨rfl, rfl⟩ := hv
      generalize he_q2 : f_43 (I 15 (Int32.toNatClampNeg v2)) = q2 at h0 hp ⊢
      refine am_E.run [54, 80] 2000 (show (if q2 = 0 then (am_E S 41 (d + 1) 0 0 80 [.ref 14, .int v1, .int v2] [] (N, am_ts T, I, L, am_rs r) Q) else (am_E S 41 (d + 1) 0 0 54 [.ref 14, .int v1, .int (v2 + 1)] [] (N, am_ts T, I, L, am_rs r) Q)) from ?_)
      by_cases hc : q2 = 0
      · rw [if_pos hc] at h0 hp ⊢
        exact h0 rfl
      · rw [if_neg hc] at h0 hp ⊢
        exact ih hp h0
def lp_41_16 : Nat → Int32 → Int32 → (Nat → Nat → Int32) → (Nat → Nat → Int64) → Nat × Int32 × Int32
  | 0, v1, v2, I, L => (0, 0, v2)
  | n + 1, v1, v2, I, L =>
    if (I 14 1) ≤ v2 then
      (0, 0, v2)
    else
      let q4 := f_42 (I 15 (Int32.toNatClampNeg v2));
      if q4 = 0 then
        (0, 0, v2)
      else
        lp_41_16 n v1 (v2 + 1) I L
def lq_41_16 : Nat → Int32 → Int32 → (Nat → Nat → Int32) → (Nat → Nat → Int64) → Prop
  | 0, v1, v2, I, L => False
  | n + 1, v1, v2, I, L =>
    if (I 14 1) ≤ v2 then
      True
    else
      ¬ (v2 < 0 ∨ 400 ≤ Int32.toNatClampNeg v2) ∧
      (let q4 := f_42 (I 15 (Int32.toNatClampNeg v2));
        if q4 = 0 then
          True
        else
          lq_41_16 n v1 (v2 + 1) I L)
set_option maxRecDepth 100000 in
theorem sl_41_16 {S : am_S} {d N : Nat} {T : Nat → Nat × Nat} {r : Nat → Nat → Option Nat} {Q : am_Q} : ∀ (n : Nat) {v1 : Int32} {v2 : Int32} {I : Nat → Nat → Int32} {L : Nat → Nat → Int64} (hp : lq_41_16 n v1 v2 I L) (h0 : (lp_41_16 n v1 v2 I L).1 = 0 → am_E S 41 (d + 1) 0 0 80 [.ref 14, .int v1, .int (lp_41_16 n v1 v2 I L).2.2] [] (N, am_ts T, I, L, am_rs r) Q), am_E S 41 (d + 1) 0 0 16 [.ref 14, .int v1, .int v2] [] (N, am_ts T, I, L, am_rs r) Q
  | 0, _, _, _, _, hp, _ => hp.elim
  | n + 1, v1, v2, I, L, hp, h0 => by
    have ih := @sl_41_16 S d N T r Q n
    unfold lp_41_16 at h0
    unfold lq_41_16 at hp
    try dsimp only at h0 hp
    refine am_E.run [30, 80] 2000 (show (if (I 14 1) ≤ v2 then (am_E S 41 (d + 1) 0 0 80 [.ref 14, .int v1, .int v2] [] (N, am_ts T, I, L, am_rs r) Q) else (if v2 < 0 ∨ 400 ≤ Int32.toNatClampNeg v2 then False else (am_E S 41 (d + 1) 0 0 30 [.ref 14, .int v1, .int v2] [.int (I 15 (Int32.toNatClampNeg v2))] (N, am_ts T, I, L, am_rs r) Q))) from ?_)
    by_cases hc : (I 14 1) ≤ v2
    · rw [if_pos hc] at h0 hp ⊢
      exact h0 rfl
    · rw [if_neg hc] at h0 hp ⊢
      rw [if_neg hp.1]
      replace hp := hp.2
      refine am_E.go ⟨fun v h9 => v = some (.int (f_42 (I 15 (Int32.toNatClampNeg v2)))) ∧ h9 = (N, am_ts T, I, L, am_rs r), s_42 ⟨rfl, rfl⟩, ?_⟩
      intro v h9 hv
      obtain ⟨rfl, rfl⟩ := hv
      generalize he_q4 : f_42 (I 15 (Int32.toNatClampNeg v2)) = q4 at h0 hp ⊢
      refine am_E.run [16, 80] 2000 (show (if q4 = 0 then (am_E S 41 (d + 1) 0 0 80 [.ref 14, .int v1, .int v2] [] (N, am_ts T, I, L, am_rs r) Q) else (am_E S 41 (d + 1) 0 0 16 [.ref 14, .int v1, .int (v2 + 1)] [] (N, am_ts T, I, L, am_rs r) Q)) from ?_)
      by_cases hc : q4 = 0
      · rw [if_pos hc] at h0 hp ⊢
        exact h0 rfl
      · rw [if_neg hc] at h0 hp ⊢
        exact ih hp h0
/-- KeyKeepers$Reader.behindToken(I)I -/
def f_41 (x0 : Int32) (I : Nat → Nat → Int32) (L : Nat → Nat → Int64) : Int32 :=
  let q0 := f_42 (I 15 (Int32.toNatClampNeg x0));
  if q0 = 0 then
    let q1 := f_43 (I 15 (Int32.toNatClampNeg x0));
    if q1 = 0 then
      (x0 + 1)
    else
      let q3 := lp_41_54 am_fu x0 (x0 + 1) I L;
      q3.2.2
  else
    let q5 := lp_41_16 am_fu x0 (x0 + 1) I L;
    q5.2.2
def p_41 (x0 : Int32) (I : Nat → Nat → Int32) (L : Nat → Nat → Int64) : Prop :=
  ¬ (x0 < 0 ∨ 400 ≤ Int32.toNatClampNeg x0) ∧
  (let q0 := f_42 (I 15 (Int32.toNatClampNeg x0));
    if q0 = 0 then
      ¬ (x0 < 0 ∨ 400 ≤ Int32.toNatClampNeg x0) ∧
      (let q1 := f_43 (I 15 (Int32.toNatClampNeg x0));
        if q1 = 0 then
          True
        else
          lq_41_54 am_fu x0 (x0 + 1) I L ∧
          (let q3 := lp_41_54 am_fu x0 (x0 + 1) I L;
            True))
    else
      lq_41_16 am_fu x0 (x0 + 1) I L ∧
      (let q5 := lp_41_16 am_fu x0 (x0 + 1) I L;
        True))
set_option maxRecDepth 100000 in
theorem s_41 {S : am_S} {d N : Nat} {T : Nat → Nat × Nat} {I : Nat → Nat → Int32} {L : Nat → Nat → Int64} {r : Nat → Nat → Option Nat} {Q : am_Q} {x0 : Int32} (hp : p_41 x0 I L) (hq : Q (some (.int (f_41 x0 I L))) (N, am_ts T, I, L, am_rs r)) : am_E S 41 (d + 1) 0 0 0 [.ref 14, .int x0, am_jk] [] (N, am_ts T, I, L, am_rs r) Q := by
  unfold f_41 at hq
  unfold p_41 at hp
  try dsimp only at hq hp
  refine am_E.run [10] 2000 (show (if x0 < 0 ∨ 400 ≤ Int32.toNatClampNeg x0 then False else (am_E S 41 (d + 1) 0 0 10 [.ref 14, .int x0, .int (x0 + 1)] [.int (I 15 (Int32.toNatClampNeg x0))] (N, am_ts T, I, L, am_rs r) Q)) from ?_)
  rw [if_neg hp.1]
  replace hp := hp.2
  refine am_E.go ⟨fun v h9 => v = some (.int (f_42 (I 15 (Int32.toNatClampNeg x0)))) ∧ h9 = (N, am_ts T, I, L, am_rs r), s_42 ⟨rfl, rfl⟩, ?_⟩
  intro v h9 hv
  obtain ⟨rfl, rfl⟩ := hv
  generalize he_q0 : f_42 (I 15 (Int32.toNatClampNeg x0)) = q0 at hq hp ⊢
  refine am_E.run [16, 48] 2000 (show (if q0 = 0 then (if x0 < 0 ∨ 400 ≤ Int32.toNatClampNeg x0 then False else (am_E S 41 (d + 1) 0 0 48 [.ref 14, .int x0, .int (x0 + 1)] [.int (I 15 (Int32.toNatClampNeg x0))] (N, am_ts T, I, L, am_rs r) Q)) else (am_E S 41 (d + 1) 0 0 16 [.ref 14, .int x0, .int (x0 + 1)] [] (N, am_ts T, I, L, am_rs r) Q)) from ?_)
  by_cases hc : q0 = 0
  · rw [if_pos hc] at hq hp ⊢
    rw [if_neg hp.1]
    replace hp := hp.2
    refine am_E.go ⟨fun v h9 => v = some (.int (f_43 (I 15 (Int32.toNatClampNeg x0)))) ∧ h9 = (N, am_ts T, I, L, am_rs r), s_43 ⟨rfl, rfl⟩, ?_⟩
    intro v h9 hv
    obtain ⟨rfl, rfl⟩ := hv
    generalize he_q1 : f_43 (I 15 (Int32.toNatClampNeg x0)) = q1 at hq hp ⊢
    refine am_E.run [54] 2000 (show (if q1 = 0 then (True ∧ Q (some (.int (x0 + 1))) (N, am_ts T, I, L, am_rs r)) else (am_E S 41 (d + 1) 0 0 54 [.ref 14, .int x0, .int (x0 + 1)] [] (N, am_ts T, I, L, am_rs r) Q)) from ?_)
    by_cases hc : q1 = 0
    · rw [if_pos hc] at hq hp ⊢
      exact ⟨trivial, hq⟩
    · rw [if_neg hc] at hq hp ⊢
      refine sl_41_54 am_fu hp.1 (fun hk => ?_)
      · replace hp := hp.2
        generalize he_q3 : lp_41_54 am_fu x0 (x0 + 1) I L = q3 at hq hp hk ⊢
        refine am_E.run [] 2000 (show (True ∧ Q (some (.int q3.2.2)) (N, am_ts T, I, L, am_rs r)) from ?_)
        exact ⟨trivial, hq⟩
  · rw [if_neg hc] at hq hp ⊢
    refine sl_41_16 am_fu hp.1 (fun hk => ?_)
    · replace hp := hp.2
      generalize he_q5 : lp_41_16 am_fu x0 (x0 + 1) I L = q5 at hq hp hk ⊢
      refine am_E.run [] 2000 (show (True ∧ Q (some (.int q5.2.2)) (N, am_ts T, I, L, am_rs r)) from ?_)
      exact ⟨trivial, hq⟩
/-- KeyKeepers.force(I)I -/
def f_105 (x0 : Int32) (I : Nat → Nat → Int32) (L : Nat → Nat → Int64) : Int32 × (Nat → Nat → Int32) × (Nat → Nat → Int64) :=
  if x0 = (-1) then
    let q0 := f_16 (I 1 16) (am_u I 1 16 x0) L;
    (q0.1, q0.2.1, q0.2.2)
  else
    let q1 := f_106 x0 I;
    if q1 = 0 then
      let q3 := f_14 (-2) I L;
      (q3.1, q3.2.1, q3.2.2)
    else
      let q2 := f_16 (I 1 16) (am_u I 1 16 x0) L;
      (q2.1, q2.2.1, q2.2.2)
def p_105 (x0 : Int32) (I : Nat → Nat → Int32) (L : Nat → Nat → Int64) : Prop :=
  if x0 = (-1) then
    True
  else
    (let q1 := f_106 x0 I;
      if q1 = 0 then
        p_14 (-2) I L ∧
        (let q3 := f_14 (-2) I L;
          True)
      else
        True)
set_option maxRecDepth 100000 in
theorem s_105 {S : am_S} {d N : Nat} {T : Nat → Nat × Nat} {I : Nat → Nat → Int32} {L : Nat → Nat → Int64} {r : Nat → Nat → Option Nat} {Q : am_Q} {x0 : Int32} (hp : p_105 x0 I L) (hq : Q (some (.int (f_105 x0 I L).1)) (N, am_ts T, (f_105 x0 I L).2.1, (f_105 x0 I L).2.2, am_rs r)) : am_E S 105 (d + 1) 0 0 0 [.ref 0, .int x0, am_jk] [] (N, am_ts T, I, L, am_rs r) Q := by
  unfold f_105 at hq
  unfold p_105 at hp
  try dsimp only at hq hp
  refine am_E.run [10, 41] 2000 (show (if x0 = (-1) then (am_E S 105 (d + 1) 0 0 41 [.ref 0, .int x0, .int (I 1 16)] [.int (I 1 16), .ref 0] (N, am_ts T, (am_u I 1 16 x0), L, am_rs r) Q) else (am_E S 105 (d + 1) 0 0 10 [.ref 0, .int x0, am_jk] [.int x0, .ref 1] (N, am_ts T, I, L, am_rs r) Q)) from ?_)
  by_cases hc : x0 = (-1)
  · rw [if_pos hc] at hq hp ⊢
    refine am_E.go ⟨fun v h9 => v = some (.int (f_16 (I 1 16) (am_u I 1 16 x0) L).1) ∧ h9 = (N, am_ts T, (f_16 (I 1 16) (am_u I 1 16 x0) L).2.1, (f_16 (I 1 16) (am_u I 1 16 x0) L).2.2, am_rs r), s_16 ⟨rfl, rfl⟩, ?_⟩
    intro v h9 hv
    obtain ⟨rfl, rfl⟩ := hv
    generalize he_q0 : f_16 (I 1 16) (am_u I 1 16 x0) L = q0 at hq ⊢
    refine am_E.run [] 2000 (show (True ∧ Q (some (.int q0.1)) (N, am_ts T, q0.2.1, q0.2.2, am_rs r)) from ?_)
    exact ⟨trivial, hq⟩
  · rw [if_neg hc] at hq hp ⊢
    refine am_E.go ⟨fun v h9 => v = some (.int (f_106 x0 I)) ∧ h9 = (N, am_ts T, I, L, am_rs r), s_106 ⟨rfl, rfl⟩, ?_⟩
    intro v h9 hv
    obtain ⟨rfl, rfl⟩ := hv
    generalize he_q1 : f_106 x0 I = q1 at hq hp ⊢
    refine am_E.run [19, 41] 2000 (show (if q1 = 0 then (am_E S 105 (d + 1) 0 0 19 [.ref 0, .int x0, am_jk] [.int (-2), .ref 0] (N, am_ts T, I, L, am_rs r) Q) else (am_E S 105 (d + 1) 0 0 41 [.ref 0, .int x0, .int (I 1 16)] [.int (I 1 16), .ref 0] (N, am_ts T, (am_u I 1 16 x0), L, am_rs r) Q)) from ?_)
    by_cases hc : q1 = 0
    · rw [if_pos hc] at hq hp ⊢
      refine am_E.go ⟨fun v h9 => v = some (.int (f_14 (-2) I L).1) ∧ h9 = (N, am_ts T, (f_14 (-2) I L).2.1, (f_14 (-2) I L).2.2, am_rs r), s_14 hp.1 ⟨rfl, rfl⟩, ?_⟩
      replace hp := hp.2
      intro v h9 hv
      obtain ⟨rfl, rfl⟩ := hv
      generalize he_q3 : f_14 (-2) I L = q3 at hq ⊢
      refine am_E.run [] 2000 (show (True ∧ Q (some (.int q3.1)) (N, am_ts T, q3.2.1, q3.2.2, am_rs r)) from ?_)
      exact ⟨trivial, hq⟩
    · rw [if_neg hc] at hq hp ⊢
      refine am_E.go ⟨fun v h9 => v = some (.int (f_16 (I 1 16) (am_u I 1 16 x0) L).1) ∧ h9 = (N, am_ts T, (f_16 (I 1 16) (am_u I 1 16 x0) L).2.1, (f_16 (I 1 16) (am_u I 1 16 x0) L).2.2, am_rs r), s_16 ⟨rfl, rfl⟩, ?_⟩
      intro v h9 hv
      obtain ⟨rfl, rfl⟩ := hv
      generalize he_q2 : f_16 (I 1 16) (am_u I 1 16 x0) L = q2 at hq ⊢
      refine am_E.run [] 2000 (show (True ∧ Q (some (.int q2.1)) (N, am_ts T, q2.2.1, q2.2.2, am_rs r)) from ?_)
      exact ⟨trivial, hq⟩
/-- KeyKeepers$Judge.setWords(LKeyKeepers$Prison;IIII)V -/
def f_110 (x1 : Int32) (x2 : Int32) (x3 : Int32) (x4 : Int32) (I : Nat → Nat → Int32) (L : Nat → Nat → Int64) : Int32 × (Nat → Nat → Int32) × (Nat → Nat → Int64) :=
  let q0 := f_111 (I 7 (Int32.toNatClampNeg x1));
  (0, (am_u (am_u (am_u (am_u (am_u (am_u (am_u (am_u (am_u (am_u I 25 0 x1) 25 1 (I 4 (Int32.toNatClampNeg x1))) 25 2 (I 5 (Int32.toNatClampNeg x1))) 25 3 q0) 25 4 x2) 25 5 x3) 25 6 x4) 25 7 (I 12 0)) 25 8 (I 12 2)) 25 9 (I 12 3)), L)
def p_110 (x1 : Int32) (x2 : Int32) (x3 : Int32) (x4 : Int32) (I : Nat → Nat → Int32) (L : Nat → Nat → Int64) : Prop :=
  ¬ (x1 < 0 ∨ 8 ≤ Int32.toNatClampNeg x1) ∧
  ¬ (x1 < 0 ∨ 8 ≤ Int32.toNatClampNeg x1) ∧
  ¬ (x1 < 0 ∨ 8 ≤ Int32.toNatClampNeg x1) ∧
  True
set_option maxRecDepth 100000 in
theorem s_110 {S : am_S} {d N : Nat} {T : Nat → Nat × Nat} {I : Nat → Nat → Int32} {L : Nat → Nat → Int64} {r : Nat → Nat → Option Nat} {Q : am_Q} {x1 : Int32} {x2 : Int32} {x3 : Int32} {x4 : Int32} (hp : p_110 x1 x2 x3 x4 I L) (hq : Q (none) (N, am_ts T, (f_110 x1 x2 x3 x4 I L).2.1, (f_110 x1 x2 x3 x4 I L).2.2, am_rs r)) : am_E S 110 (d + 1) 0 0 0 [.ref 23, .ref 1, .int x1, .int x2, .int x3, .int x4, am_jk] [] (N, am_ts T, I, L, am_rs r) Q := by
  unfold f_110 at hq
  unfold p_110 at hp
  try dsimp only at hq hp
  refine am_E.run [43] 2000 (show (if x1 < 0 ∨ 8 ≤ Int32.toNatClampNeg x1 then False else (if x1 < 0 ∨ 8 ≤ Int32.toNatClampNeg x1 then False else (if x1 < 0 ∨ 8 ≤ Int32.toNatClampNeg x1 then False else (am_E S 110 (d + 1) 0 0 43 [.ref 23, .ref 1, .int x1, .int x2, .int x3, .int x4, .ref 25] [.int (I 7 (Int32.toNatClampNeg x1)), .int 3, .ref 25] (N, am_ts T, (am_u (am_u (am_u I 25 0 x1) 25 1 (I 4 (Int32.toNatClampNeg x1))) 25 2 (I 5 (Int32.toNatClampNeg x1))), L, am_rs r) Q)))) from ?_)
  rw [if_neg hp.1]
  replace hp := hp.2
  rw [if_neg hp.1]
  replace hp := hp.2
  rw [if_neg hp.1]
  replace hp := hp.2
  refine am_E.go ⟨fun v h9 => v = some (.int (f_111 (I 7 (Int32.toNatClampNeg x1)))) ∧ h9 = (N, am_ts T, (am_u (am_u (am_u I 25 0 x1) 25 1 (I 4 (Int32.toNatClampNeg x1))) 25 2 (I 5 (Int32.toNatClampNeg x1))), L, am_rs r), s_111 ⟨rfl, rfl⟩, ?_⟩
  intro v h9 hv
  obtain ⟨rfl, rfl⟩ := hv
  generalize he_q0 : f_111 (I 7 (Int32.toNatClampNeg x1)) = q0 at hq ⊢
  refine am_E.run [] 2000 (show (True ∧ Q (none) (N, am_ts T, (am_u (am_u (am_u (am_u (am_u (am_u (am_u (am_u (am_u (am_u I 25 0 x1) 25 1 (I 4 (Int32.toNatClampNeg x1))) 25 2 (I 5 (Int32.toNatClampNeg x1))) 25 3 q0) 25 4 x2) 25 5 x3) 25 6 x4) 25 7 (I 12 0)) 25 8 (I 12 2)) 25 9 (I 12 3)), L, am_rs r)) from ?_)
  exact ⟨trivial, hq⟩
def lp_126_19 : Nat → Int32 → Int32 → Int32 → Int32 → (Nat → Nat → Int32) → (Nat → Nat → Int64) → Nat × Int32 × Int32 × Int32
  | 0, v2, v3, v4, v5, I, L => (0, 0, v4, v5)
  | n + 1, v2, v3, v4, v5, I, L =>
    if (10 : Int32) ≤ v5 then
      (0, 0, v4, v5)
    else
      let q1 := f_20 v4 0;
      if q1 = 1 then
        (1, v5, v4, v5)
      else
        let q2 := f_128 v3 v4 I L;
        lp_126_19 n v2 v3 q2 (v5 + 1) I L
def lq_126_19 : Nat → Int32 → Int32 → Int32 → Int32 → (Nat → Nat → Int32) → (Nat → Nat → Int64) → Prop
  | 0, v2, v3, v4, v5, I, L => False
  | n + 1, v2, v3, v4, v5, I, L =>
    if (10 : Int32) ≤ v5 then
      True
    else
      (let q1 := f_20 v4 0;
        if q1 = 1 then
          True
        else
          p_128 v3 v4 I L ∧
          (let q2 := f_128 v3 v4 I L;
            lq_126_19 n v2 v3 q2 (v5 + 1) I L))
set_option maxRecDepth 100000 in
theorem sl_126_19 {S : am_S} {d N : Nat} {T : Nat → Nat × Nat} {r : Nat → Nat → Option Nat} {Q : am_Q} : ∀ (n : Nat) {v2 : Int32} {v3 : Int32} {v4 : Int32} {v5 : Int32} {I : Nat → Nat → Int32} {L : Nat → Nat → Int64} (hp : lq_126_19 n v2 v3 v4 v5 I L) (h0 : (lp_126_19 n v2 v3 v4 v5 I L).1 = 0 → am_E S 126 (d + 2) 0 0 54 [.ref 55, .ref 1, .int v2, .int v3, .int (lp_126_19 n v2 v3 v4 v5 I L).2.2.1, .int (lp_126_19 n v2 v3 v4 v5 I L).2.2.2] [] (N, am_ts T, I, L, am_rs r) Q) (h1 : (lp_126_19 n v2 v3 v4 v5 I L).1 = 1 → Q (some (.int (lp_126_19 n v2 v3 v4 v5 I L).2.1)) (N, am_ts T, I, L, am_rs r)), am_E S 126 (d + 2) 0 0 19 [.ref 55, .ref 1, .int v2, .int v3, .int v4, .int v5] [] (N, am_ts T, I, L, am_rs r) Q
  | 0, _, _, _, _, _, _, hp, _, _ => hp.elim
  | n + 1, v2, v3, v4, v5, I, L, hp, h0, h1 => by
    have ih := @sl_126_19 S d N T r Q n
    unfold lp_126_19 at h0 h1
    unfold lq_126_19 at hp
    try dsimp only at h0 h1 hp
    refine am_E.run [29, 54] 2000 (show (if (10 : Int32) ≤ v5 then (am_E S 126 (d + 2) 0 0 54 [.ref 55, .ref 1, .int v2, .int v3, .int v4, .int v5] [] (N, am_ts T, I, L, am_rs r) Q) else (am_E S 126 (d + 2) 0 0 29 [.ref 55, .ref 1, .int v2, .int v3, .int v4, .int v5] [.int 0, .int v4] (N, am_ts T, I, L, am_rs r) Q)) from ?_)
    by_cases hc : (10 : Int32) ≤ v5
    · rw [if_pos hc] at h0 h1 hp ⊢
      exact h0 rfl
    · rw [if_neg hc] at h0 h1 hp ⊢
      refine am_E.go ⟨fun v h9 => v = some (.int (f_20 v4 0)) ∧ h9 = (N, am_ts T, I, L, am_rs r), s_20 ⟨rfl, rfl⟩, ?_⟩
      intro v h9 hv
      obtain ⟨rfl, rfl⟩ := hv
      generalize he_q1 : f_20 v4 0 = q1 at h0 h1 hp ⊢
      refine am_E.run [43] 2000 (show (if q1 = 1 then (True ∧ Q (some (.int v5)) (N, am_ts T, I, L, am_rs r)) else (am_E S 126 (d + 2) 0 0 43 [.ref 55, .ref 1, .int v2, .int v3, .int v4, .int v5] [.int v4, .int v3, .ref 1] (N, am_ts T, I, L, am_rs r) Q)) from ?_)
      by_cases hc : q1 = 1
      · rw [if_pos hc] at h0 h1 hp ⊢
        exact ⟨trivial, (h1 rfl)⟩
      · rw [if_neg hc] at h0 h1 hp ⊢
        refine am_E.go ⟨fun v h9 => v = some (.int (f_128 v3 v4 I L)) ∧ h9 = (N, am_ts T, I, L, am_rs r), s_128 hp.1 ⟨rfl, rfl⟩, ?_⟩
        replace hp := hp.2
        intro v h9 hv
        obtain ⟨rfl, rfl⟩ := hv
        generalize he_q2 : f_128 v3 v4 I L = q2 at h0 h1 hp ⊢
        refine am_E.run [19] 2000 (show (am_E S 126 (d + 2) 0 0 19 [.ref 55, .ref 1, .int v2, .int v3, .int q2, .int (v5 + 1)] [] (N, am_ts T, I, L, am_rs r) Q) from ?_)
        exact ih hp h0 h1
/-- KeyKeepers$Doors.fewestToOutside(LKeyKeepers$Prison;I)I -/
def f_126 (x1 : Int32) (I : Nat → Nat → Int32) (L : Nat → Nat → Int64) : Int32 :=
  let q0 := f_127 x1 I L;
  let q3 := lp_126_19 am_fu x1 q0 (1 <<< ((I 6 (Int32.toNatClampNeg x1)) &&& 31)) 0 I L;
  if q3.1 = 1 then
    q3.2.1
  else
  (-1)
def p_126 (x1 : Int32) (I : Nat → Nat → Int32) (L : Nat → Nat → Int64) : Prop :=
  p_127 x1 I L ∧
  (let q0 := f_127 x1 I L;
    ¬ (x1 < 0 ∨ 8 ≤ Int32.toNatClampNeg x1) ∧
    lq_126_19 am_fu x1 q0 (1 <<< ((I 6 (Int32.toNatClampNeg x1)) &&& 31)) 0 I L ∧
    (let q3 := lp_126_19 am_fu x1 q0 (1 <<< ((I 6 (Int32.toNatClampNeg x1)) &&& 31)) 0 I L;
      if q3.1 = 1 then
        True
      else
      True))
set_option maxRecDepth 100000 in
theorem s_126 {S : am_S} {d N : Nat} {T : Nat → Nat × Nat} {I : Nat → Nat → Int32} {L : Nat → Nat → Int64} {r : Nat → Nat → Option Nat} {Q : am_Q} {x1 : Int32} (hp : p_126 x1 I L) (hq : Q (some (.int (f_126 x1 I L))) (N, am_ts T, I, L, am_rs r)) : am_E S 126 (d + 2) 0 0 0 [.ref 55, .ref 1, .int x1, am_jk, am_jk, am_jk] [] (N, am_ts T, I, L, am_rs r) Q := by
  unfold f_126 at hq
  unfold p_126 at hp
  try dsimp only at hq hp
  refine am_E.run [2] 2000 (show (am_E S 126 (d + 2) 0 0 2 [.ref 55, .ref 1, .int x1, am_jk, am_jk, am_jk] [.int x1, .ref 1] (N, am_ts T, I, L, am_rs r) Q) from ?_)
  refine am_E.go ⟨fun v h9 => v = some (.int (f_127 x1 I L)) ∧ h9 = (N, am_ts T, I, L, am_rs r), s_127 hp.1 ⟨rfl, rfl⟩, ?_⟩
  replace hp := hp.2
  intro v h9 hv
  obtain ⟨rfl, rfl⟩ := hv
  generalize he_q0 : f_127 x1 I L = q0 at hq hp ⊢
  refine am_E.run [19] 2000 (show (if x1 < 0 ∨ 8 ≤ Int32.toNatClampNeg x1 then False else (am_E S 126 (d + 2) 0 0 19 [.ref 55, .ref 1, .int x1, .int q0, .int (1 <<< ((I 6 (Int32.toNatClampNeg x1)) &&& 31)), .int 0] [] (N, am_ts T, I, L, am_rs r) Q)) from ?_)
  rw [if_neg hp.1]
  replace hp := hp.2
  refine sl_126_19 am_fu hp.1 (fun hk => ?_) (fun hk => ?_)
  · replace hp := hp.2
    generalize he_q3 : lp_126_19 am_fu x1 q0 (1 <<< ((I 6 (Int32.toNatClampNeg x1)) &&& 31)) 0 I L = q3 at hq hp hk ⊢
    rw [if_neg (by rw [hk]; decide)] at hq hp
    refine am_E.run [] 2000 (show (True ∧ Q (some (.int (-1))) (N, am_ts T, I, L, am_rs r)) from ?_)
    exact ⟨trivial, hq⟩
  · replace hp := hp.2
    generalize he_q3 : lp_126_19 am_fu x1 q0 (1 <<< ((I 6 (Int32.toNatClampNeg x1)) &&& 31)) 0 I L = q3 at hq hp hk ⊢
    rw [if_pos hk] at hq hp
    exact hq
def lp_134_4 : Nat → Int32 → Int32 → (Nat → Nat → Int32) → (Nat → Nat → Int64) → Nat × Int32 × Int32 × Int32
  | 0, v1, v2, I, L => (0, 0, v1, v2)
  | n + 1, v1, v2, I, L =>
    if (I 1 10) ≤ v2 then
      (0, 0, v1, v2)
    else
      if (I 6 (Int32.toNatClampNeg v2)) = 0 then
        lp_134_4 n v1 (v2 + 1) I L
      else
        let q0 := f_126 v2 I L;
        if q0 = (-1) then
          lp_134_4 n v1 (v2 + 1) I L
        else
          lp_134_4 n (v1 ||| (1 <<< (v2 &&& 31))) (v2 + 1) I L
def lq_134_4 : Nat → Int32 → Int32 → (Nat → Nat → Int32) → (Nat → Nat → Int64) → Prop
  | 0, v1, v2, I, L => False
  | n + 1, v1, v2, I, L =>
    if (I 1 10) ≤ v2 then
      True
    else
      ¬ (v2 < 0 ∨ 8 ≤ Int32.toNatClampNeg v2) ∧
      if (I 6 (Int32.toNatClampNeg v2)) = 0 then
        lq_134_4 n v1 (v2 + 1) I L
      else
        p_126 v2 I L ∧
        (let q0 := f_126 v2 I L;
          if q0 = (-1) then
            lq_134_4 n v1 (v2 + 1) I L
          else
            lq_134_4 n (v1 ||| (1 <<< (v2 &&& 31))) (v2 + 1) I L)
set_option maxRecDepth 100000 in
theorem sl_134_4 {S : am_S} {d N : Nat} {T : Nat → Nat × Nat} {r : Nat → Nat → Option Nat} {Q : am_Q} : ∀ (n : Nat) {v1 : Int32} {v2 : Int32} {I : Nat → Nat → Int32} {L : Nat → Nat → Int64} (hp : lq_134_4 n v1 v2 I L) (h0 : (lp_134_4 n v1 v2 I L).1 = 0 → am_E S 134 (d + 3) 0 0 55 [.ref 0, .int (lp_134_4 n v1 v2 I L).2.2.1, .int (lp_134_4 n v1 v2 I L).2.2.2] [] (N, am_ts T, I, L, am_rs r) Q), am_E S 134 (d + 3) 0 0 4 [.ref 0, .int v1, .int v2] [] (N, am_ts T, I, L, am_rs r) Q
  | 0, _, _, _, _, hp, _ => hp.elim
  | n + 1, v1, v2, I, L, hp, h0 => by
    have ih := @sl_134_4 S d N T r Q n
    unfold lp_134_4 at h0
    unfold lq_134_4 at hp
    try dsimp only at h0 hp
    refine am_E.run [4, 36, 55] 2000 (show (if (I 1 10) ≤ v2 then (am_E S 134 (d + 3) 0 0 55 [.ref 0, .int v1, .int v2] [] (N, am_ts T, I, L, am_rs r) Q) else (if v2 < 0 ∨ 8 ≤ Int32.toNatClampNeg v2 then False else (if (I 6 (Int32.toNatClampNeg v2)) = 0 then (am_E S 134 (d + 3) 0 0 4 [.ref 0, .int v1, .int (v2 + 1)] [] (N, am_ts T, I, L, am_rs r) Q) else (am_E S 134 (d + 3) 0 0 36 [.ref 0, .int v1, .int v2] [.int v2, .ref 1, .ref 55] (N, am_ts T, I, L, am_rs r) Q)))) from ?_)
    by_cases hc : (I 1 10) ≤ v2
    · rw [if_pos hc] at h0 hp ⊢
      exact h0 rfl
    · rw [if_neg hc] at h0 hp ⊢
      rw [if_neg hp.1]
      replace hp := hp.2
      by_cases hc : (I 6 (Int32.toNatClampNeg v2)) = 0
      · rw [if_pos hc] at h0 hp ⊢
        exact ih hp h0
      · rw [if_neg hc] at h0 hp ⊢
        refine am_E.go ⟨fun v h9 => v = some (.int (f_126 v2 I L)) ∧ h9 = (N, am_ts T, I, L, am_rs r), s_126 hp.1 ⟨rfl, rfl⟩, ?_⟩
        replace hp := hp.2
        intro v h9 hv
        obtain ⟨rfl, rfl⟩ := hv
        generalize he_q0 : f_126 v2 I L = q0 at h0 hp ⊢
        refine am_E.run [4] 2000 (show (if q0 = (-1) then (am_E S 134 (d + 3) 0 0 4 [.ref 0, .int v1, .int (v2 + 1)] [] (N, am_ts T, I, L, am_rs r) Q) else (am_E S 134 (d + 3) 0 0 4 [.ref 0, .int (v1 ||| (1 <<< (v2 &&& 31))), .int (v2 + 1)] [] (N, am_ts T, I, L, am_rs r) Q)) from ?_)
        by_cases hc : q0 = (-1)
        · rw [if_pos hc] at h0 hp ⊢
          exact ih hp h0
        · rw [if_neg hc] at h0 hp ⊢
          exact ih hp h0
/-- KeyKeepers.together()I -/
def f_134 (I : Nat → Nat → Int32) (L : Nat → Nat → Int64) : Int32 :=
  let q1 := lp_134_4 am_fu 0 0 I L;
  q1.2.2.1
def p_134 (I : Nat → Nat → Int32) (L : Nat → Nat → Int64) : Prop :=
  lq_134_4 am_fu 0 0 I L ∧
  (let q1 := lp_134_4 am_fu 0 0 I L;
    True)
set_option maxRecDepth 100000 in
theorem s_134 {S : am_S} {d N : Nat} {T : Nat → Nat × Nat} {I : Nat → Nat → Int32} {L : Nat → Nat → Int64} {r : Nat → Nat → Option Nat} {Q : am_Q} (hp : p_134 I L) (hq : Q (some (.int (f_134 I L))) (N, am_ts T, I, L, am_rs r)) : am_E S 134 (d + 3) 0 0 0 [.ref 0, am_jk, am_jk] [] (N, am_ts T, I, L, am_rs r) Q := by
  unfold f_134 at hq
  unfold p_134 at hp
  try dsimp only at hq hp
  refine am_E.run [4] 2000 (show (am_E S 134 (d + 3) 0 0 4 [.ref 0, .int 0, .int 0] [] (N, am_ts T, I, L, am_rs r) Q) from ?_)
  refine sl_134_4 am_fu hp.1 (fun hk => ?_)
  · replace hp := hp.2
    generalize he_q1 : lp_134_4 am_fu 0 0 I L = q1 at hq hp hk ⊢
    refine am_E.run [] 2000 (show (True ∧ Q (some (.int q1.2.2.1)) (N, am_ts T, I, L, am_rs r)) from ?_)
    exact ⟨trivial, hq⟩
def lp_148_5 : Nat → Int32 → Int32 → Int32 → (Nat → Nat → Int32) → (Nat → Nat → Int64) → Nat × Int32 × Int32 × Int32
  | 0, v2, v3, v4, I, L => (0, 0, v3, v4)
  | n + 1, v2, v3, v4, I, L =>
    if v2 ≤ v4 then
      (0, 0, v3, v4)
    else
      if (6 : Int32) ≤ v4 then
        (0, 0, v3, v4)
      else
        lp_148_5 n v2 (v3 * (I 1 10)) (v4 + 1) I L
def lq_148_5 : Nat → Int32 → Int32 → Int32 → (Nat → Nat → Int32) → (Nat → Nat → Int64) → Prop
  | 0, v2, v3, v4, I, L => False
  | n + 1, v2, v3, v4, I, L =>
    if v2 ≤ v4 then
      True
    else
      if (6 : Int32) ≤ v4 then
        True
      else
        lq_148_5 n v2 (v3 * (I 1 10)) (v4 + 1) I L
set_option maxRecDepth 100000 in
theorem sl_148_5 {S : am_S} {d N : Nat} {T : Nat → Nat × Nat} {r : Nat → Nat → Option Nat} {Q : am_Q} : ∀ (n : Nat) {v2 : Int32} {v3 : Int32} {v4 : Int32} {I : Nat → Nat → Int32} {L : Nat → Nat → Int64} (hp : lq_148_5 n v2 v3 v4 I L) (h0 : (lp_148_5 n v2 v3 v4 I L).1 = 0 → am_E S 148 (d + 2) 0 0 31 [.ref 55, .ref 1, .int v2, .int (lp_148_5 n v2 v3 v4 I L).2.2.1, .int (lp_148_5 n v2 v3 v4 I L).2.2.2, am_jk, am_jk] [] (N, am_ts T, I, L, am_rs r) Q), am_E S 148 (d + 2) 0 0 5 [.ref 55, .ref 1, .int v2, .int v3, .int v4, am_jk, am_jk] [] (N, am_ts T, I, L, am_rs r) Q
  | 0, _, _, _, _, _, hp, _ => hp.elim
  | n + 1, v2, v3, v4, I, L, hp, h0 => by
    have ih := @sl_148_5 S d N T r Q n
    unfold lp_148_5 at h0
    unfold lq_148_5 at hp
    try dsimp only at h0 hp
    refine am_E.run [5, 31] 2000 (show (if v2 ≤ v4 then (am_E S 148 (d + 2) 0 0 31 [.ref 55, .ref 1, .int v2, .int v3, .int v4, am_jk, am_jk] [] (N, am_ts T, I, L, am_rs r) Q) else (if (6 : Int32) ≤ v4 then (am_E S 148 (d + 2) 0 0 31 [.ref 55, .ref 1, .int v2, .int v3, .int v4, am_jk, am_jk] [] (N, am_ts T, I, L, am_rs r) Q) else (am_E S 148 (d + 2) 0 0 5 [.ref 55, .ref 1, .int v2, .int (v3 * (I 1 10)), .int (v4 + 1), am_jk, am_jk] [] (N, am_ts T, I, L, am_rs r) Q))) from ?_)
    by_cases hc : v2 ≤ v4
    · rw [if_pos hc] at h0 hp ⊢
      exact h0 rfl
    · rw [if_neg hc] at h0 hp ⊢
      by_cases hc : (6 : Int32) ≤ v4
      · rw [if_pos hc] at h0 hp ⊢
        exact h0 rfl
      · rw [if_neg hc] at h0 hp ⊢
        exact ih hp h0
def lp_148_52 : Nat → Int32 → Int32 → Int32 → Int32 → Int32 → (Nat → Nat → Int32) → (Nat → Nat → Int64) → Nat × Int32 × Int32 × Int32
  | 0, v2, v3, v4, v5, v6, I, L => (0, 0, v4, v6)
  | n + 1, v2, v3, v4, v5, v6, I, L =>
    if (I 1 10) ≤ v6 then
      (0, 0, v4, v6)
    else
      let q1 := f_149 v5 v6 I;
      if q1 = 0 then
        lp_148_52 n v2 v3 (v4 + 0) v5 (v6 + 1) I L
      else
        lp_148_52 n v2 v3 (v4 + 1) v5 (v6 + 1) I L
def lq_148_52 : Nat → Int32 → Int32 → Int32 → Int32 → Int32 → (Nat → Nat → Int32) → (Nat → Nat → Int64) → Prop
  | 0, v2, v3, v4, v5, v6, I, L => False
  | n + 1, v2, v3, v4, v5, v6, I, L =>
    if (I 1 10) ≤ v6 then
      True
    else
      p_149 v5 v6 I ∧
      (let q1 := f_149 v5 v6 I;
        if q1 = 0 then
          lq_148_52 n v2 v3 (v4 + 0) v5 (v6 + 1) I L
        else
          lq_148_52 n v2 v3 (v4 + 1) v5 (v6 + 1) I L)
set_option maxRecDepth 100000 in
theorem sl_148_52 {S : am_S} {d N : Nat} {T : Nat → Nat × Nat} {r : Nat → Nat → Option Nat} {Q : am_Q} : ∀ (n : Nat) {v2 : Int32} {v3 : Int32} {v4 : Int32} {v5 : Int32} {v6 : Int32} {I : Nat → Nat → Int32} {L : Nat → Nat → Int64} (hp : lq_148_52 n v2 v3 v4 v5 v6 I L) (h0 : (lp_148_52 n v2 v3 v4 v5 v6 I L).1 = 0 → am_E S 148 (d + 2) 0 0 88 [.ref 55, .ref 1, .int v2, .int v3, .int (lp_148_52 n v2 v3 v4 v5 v6 I L).2.2.1, .int v5, .int (lp_148_52 n v2 v3 v4 v5 v6 I L).2.2.2] [] (N, am_ts T, I, L, am_rs r) Q), am_E S 148 (d + 2) 0 0 52 [.ref 55, .ref 1, .int v2, .int v3, .int v4, .int v5, .int v6] [] (N, am_ts T, I, L, am_rs r) Q
  | 0, _, _, _, _, _, _, _, hp, _ => hp.elim
  | n + 1, v2, v3, v4, v5, v6, I, L, hp, h0 => by
    have ih := @sl_148_52 S d N T r Q n
    unfold lp_148_52 at h0
    unfold lq_148_52 at hp
    try dsimp only at h0 hp
    refine am_E.run [68, 88] 2000 (show (if (I 1 10) ≤ v6 then (am_E S 148 (d + 2) 0 0 88 [.ref 55, .ref 1, .int v2, .int v3, .int v4, .int v5, .int v6] [] (N, am_ts T, I, L, am_rs r) Q) else (am_E S 148 (d + 2) 0 0 68 [.ref 55, .ref 1, .int v2, .int v3, .int v4, .int v5, .int v6] [.int v6, .int v5, .ref 1, .int v4] (N, am_ts T, I, L, am_rs r) Q)) from ?_)
    by_cases hc : (I 1 10) ≤ v6
    · rw [if_pos hc] at h0 hp ⊢
      exact h0 rfl
    · rw [if_neg hc] at h0 hp ⊢
      refine am_E.go ⟨fun v h9 => v = some (.int (f_149 v5 v6 I)) ∧ h9 = (N, am_ts T, I, L, am_rs r), s_149 hp.1 ⟨rfl, rfl⟩, ?_⟩
      replace hp := hp.2
      intro v h9 hv
      obtain ⟨rfl, rfl⟩ := hv
      generalize he_q1 : f_149 v5 v6 I = q1 at h0 hp ⊢
      refine am_E.run [52] 2000 (show (if q1 = 0 then (am_E S 148 (d + 2) 0 0 52 [.ref 55, .ref 1, .int v2, .int v3, .int (v4 + 0), .int v5, .int (v6 + 1)] [] (N, am_ts T, I, L, am_rs r) Q) else (am_E S 148 (d + 2) 0 0 52 [.ref 55, .ref 1, .int v2, .int v3, .int (v4 + 1), .int v5, .int (v6 + 1)] [] (N, am_ts T, I, L, am_rs r) Q)) from ?_)
      by_cases hc : q1 = 0
      · rw [if_pos hc] at h0 hp ⊢
        exact ih hp h0
      · rw [if_neg hc] at h0 hp ⊢
        exact ih hp h0
def lp_148_37 : Nat → Int32 → Int32 → Int32 → Int32 → (Nat → Nat → Int32) → (Nat → Nat → Int64) → Nat × Int32 × Int32 × Int32
  | 0, v2, v3, v4, v5, I, L => (0, 0, v4, v5)
  | n + 1, v2, v3, v4, v5, I, L =>
    if (I 1 10) ≤ v5 then
      (0, 0, v4, v5)
    else
      let q2 := lp_148_52 am_fu v2 v3 v4 v5 (v5 + 1) I L;
      lp_148_37 n v2 v3 q2.2.2.1 (v5 + 1) I L
def lq_148_37 : Nat → Int32 → Int32 → Int32 → Int32 → (Nat → Nat → Int32) → (Nat → Nat → Int64) → Prop
  | 0, v2, v3, v4, v5, I, L => False
  | n + 1, v2, v3, v4, v5, I, L =>
    if (I 1 10) ≤ v5 then
      True
    else
      lq_148_52 am_fu v2 v3 v4 v5 (v5 + 1) I L ∧
      (let q2 := lp_148_52 am_fu v2 v3 v4 v5 (v5 + 1) I L;
        lq_148_37 n v2 v3 q2.2.2.1 (v5 + 1) I L)
set_option maxRecDepth 100000 in
theorem sl_148_37 {S : am_S} {d N : Nat} {T : Nat → Nat × Nat} {r : Nat → Nat → Option Nat} {Q : am_Q} : ∀ (n : Nat) {v2 : Int32} {v3 : Int32} {v4 : Int32} {v5 : Int32} {I : Nat → Nat → Int32} {L : Nat → Nat → Int64} (hp : lq_148_37 n v2 v3 v4 v5 I L) (h0 : (lp_148_37 n v2 v3 v4 v5 I L).1 = 0 → am_E S 148 (d + 2) 0 0 94 [.ref 55, .ref 1, .int v2, .int v3, .int (lp_148_37 n v2 v3 v4 v5 I L).2.2.1, .int (lp_148_37 n v2 v3 v4 v5 I L).2.2.2, am_jk] [] (N, am_ts T, I, L, am_rs r) Q), am_E S 148 (d + 2) 0 0 37 [.ref 55, .ref 1, .int v2, .int v3, .int v4, .int v5, am_jk] [] (N, am_ts T, I, L, am_rs r) Q
  | 0, _, _, _, _, _, _, hp, _ => hp.elim
  | n + 1, v2, v3, v4, v5, I, L, hp, h0 => by
    have ih := @sl_148_37 S d N T r Q n
    unfold lp_148_37 at h0
    unfold lq_148_37 at hp
    try dsimp only at h0 hp
    refine am_E.run [52, 94] 2000 (show (if (I 1 10) ≤ v5 then (am_E S 148 (d + 2) 0 0 94 [.ref 55, .ref 1, .int v2, .int v3, .int v4, .int v5, am_jk] [] (N, am_ts T, I, L, am_rs r) Q) else (am_E S 148 (d + 2) 0 0 52 [.ref 55, .ref 1, .int v2, .int v3, .int v4, .int v5, .int (v5 + 1)] [] (N, am_ts T, I, L, am_rs r) Q)) from ?_)
    by_cases hc : (I 1 10) ≤ v5
    · rw [if_pos hc] at h0 hp ⊢
      exact h0 rfl
    · rw [if_neg hc] at h0 hp ⊢
      refine sl_148_52 am_fu hp.1 (fun hk => ?_)
      · replace hp := hp.2
        generalize he_q2 : lp_148_52 am_fu v2 v3 v4 v5 (v5 + 1) I L = q2 at h0 hp hk ⊢
        refine am_E.run [37] 2000 (show (am_E S 148 (d + 2) 0 0 37 [.ref 55, .ref 1, .int v2, .int v3, .int q2.2.2.1, .int (v5 + 1), .int q2.2.2.2] [] (N, am_ts T, I, L, am_rs r) Q) from ?_)
        exact am_E.junk (ih hp h0) (am_le.cons (am_le.cons (am_le.cons (am_le.cons (am_le.cons (am_le.cons (am_le.jk am_le.nil)))))))
/-- KeyKeepers$Doors.waysToPart(LKeyKeepers$Prison;I)I -/
def f_148 (x1 : Int32) (I : Nat → Nat → Int32) (L : Nat → Nat → Int64) : Int32 :=
  let q0 := lp_148_5 am_fu x1 1 0 I L;
  let q3 := lp_148_37 am_fu x1 q0.2.2.1 0 0 I L;
  ((q0.2.2.1 - (I 1 10)) - (q3.2.2.1 * ((1 <<< (x1 &&& 31)) - 2)))
def p_148 (x1 : Int32) (I : Nat → Nat → Int32) (L : Nat → Nat → Int64) : Prop :=
  lq_148_5 am_fu x1 1 0 I L ∧
  (let q0 := lp_148_5 am_fu x1 1 0 I L;
    lq_148_37 am_fu x1 q0.2.2.1 0 0 I L ∧
    (let q3 := lp_148_37 am_fu x1 q0.2.2.1 0 0 I L;
      True))
set_option maxRecDepth 100000 in
theorem s_148 {S : am_S} {d N : Nat} {T : Nat → Nat × Nat} {I : Nat → Nat → Int32} {L : Nat → Nat → Int64} {r : Nat → Nat → Option Nat} {Q : am_Q} {x1 : Int32} (hp : p_148 x1 I L) (hq : Q (some (.int (f_148 x1 I L))) (N, am_ts T, I, L, am_rs r)) : am_E S 148 (d + 2) 0 0 0 [.ref 55, .ref 1, .int x1, am_jk, am_jk, am_jk, am_jk] [] (N, am_ts T, I, L, am_rs r) Q := by
  unfold f_148 at hq
  unfold p_148 at hp
  try dsimp only at hq hp
  refine am_E.run [5] 2000 (show (am_E S 148 (d + 2) 0 0 5 [.ref 55, .ref 1, .int x1, .int 1, .int 0, am_jk, am_jk] [] (N, am_ts T, I, L, am_rs r) Q) from ?_)
  refine sl_148_5 am_fu hp.1 (fun hk => ?_)
  · replace hp := hp.2
    generalize he_q0 : lp_148_5 am_fu x1 1 0 I L = q0 at hq hp hk ⊢
    refine am_E.run [37] 2000 (show (am_E S 148 (d + 2) 0 0 37 [.ref 55, .ref 1, .int x1, .int q0.2.2.1, .int 0, .int 0, am_jk] [] (N, am_ts T, I, L, am_rs r) Q) from ?_)
    refine sl_148_37 am_fu hp.1 (fun hk => ?_)
    · replace hp := hp.2
      generalize he_q3 : lp_148_37 am_fu x1 q0.2.2.1 0 0 I L = q3 at hq hp hk ⊢
      refine am_E.run [] 2000 (show (True ∧ Q (some (.int ((q0.2.2.1 - (I 1 10)) - (q3.2.2.1 * ((1 <<< (x1 &&& 31)) - 2))))) (N, am_ts T, I, L, am_rs r)) from ?_)
      exact ⟨trivial, hq⟩
