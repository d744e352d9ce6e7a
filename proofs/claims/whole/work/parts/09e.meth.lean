/-- KeyKeepersModel.stopped()I -/
def f_298 (I : Nat → Nat → Int32) (L : Nat → Nat → Int64) : Int32 × (Nat → Nat → Int32) × (Nat → Nat → Int64) :=
  ((I 66 56), (am_u I 66 0 0), L)
set_option maxRecDepth 100000 in
theorem s_298 {S : am_S} {d N : Nat} {T : Nat → Nat × Nat} {I : Nat → Nat → Int32} {L : Nat → Nat → Int64} {r : Nat → Nat → Option Nat} {Q : am_Q} (hq : Q (some (.int (f_298 I L).1)) (N, am_ts T, (f_298 I L).2.1, (f_298 I L).2.2, am_rs r)) : am_E S 298 (d + 0) 0 0 0 [.ref 66] [] (N, am_ts T, I, L, am_rs r) Q := by
  unfold f_298 at hq
  try dsimp only at hq
  refine am_E.run [] 2000 (show (True ∧ Q (some (.int (I 66 56))) (N, am_ts T, (am_u I 66 0 0), L, am_rs r)) from ?_)
  exact ⟨trivial, hq⟩
/-- KeyKeepersModel.draw(I)I -/
def f_300 (x0 : Int32) (I : Nat → Nat → Int32) (L : Nat → Nat → Int64) : Int32 × (Nat → Nat → Int32) × (Nat → Nat → Int64) :=
  ((Int64.toInt32 (((((L 66 58) * 1103) + 12345) - (((L 66 58) * 1103) + 12345) / 1000003 * 1000003) - ((((L 66 58) * 1103) + 12345) - (((L 66 58) * 1103) + 12345) / 1000003 * 1000003) / (Int32.toInt64 x0) * (Int32.toInt64 x0))), I, (am_u L 66 58 ((((L 66 58) * 1103) + 12345) - (((L 66 58) * 1103) + 12345) / 1000003 * 1000003)))
def p_300 (x0 : Int32) (I : Nat → Nat → Int32) (L : Nat → Nat → Int64) : Prop :=
  ¬ ((Int32.toInt64 x0) = 0) ∧
  True
set_option maxRecDepth 100000 in
theorem s_300 {S : am_S} {d N : Nat} {T : Nat → Nat × Nat} {I : Nat → Nat → Int32} {L : Nat → Nat → Int64} {r : Nat → Nat → Option Nat} {Q : am_Q} {x0 : Int32} (hp : p_300 x0 I L) (hq : Q (some (.int (f_300 x0 I L).1)) (N, am_ts T, (f_300 x0 I L).2.1, (f_300 x0 I L).2.2, am_rs r)) : am_E S 300 (d + 0) 0 0 0 [.ref 66, .int x0] [] (N, am_ts T, I, L, am_rs r) Q := by
  unfold f_300 at hq
  unfold p_300 at hp
  try dsimp only at hq hp
  refine am_E.run [] 2000 (show (if (Int32.toInt64 x0) = 0 then False else (True ∧ Q (some (.int (Int64.toInt32 (((((L 66 58) * 1103) + 12345) - (((L 66 58) * 1103) + 12345) / 1000003 * 1000003) - ((((L 66 58) * 1103) + 12345) - (((L 66 58) * 1103) + 12345) / 1000003 * 1000003) / (Int32.toInt64 x0) * (Int32.toInt64 x0))))) (N, am_ts T, I, (am_u L 66 58 ((((L 66 58) * 1103) + 12345) - (((L 66 58) * 1103) + 12345) / 1000003 * 1000003)), am_rs r))) from ?_)
  rw [if_neg hp.1]
  replace hp := hp.2
  exact ⟨trivial, hq⟩
/-- KeyKeepersModel.drawn(II)I -/
def f_301 (x0 : Int32) (x1 : Int32) (I : Nat → Nat → Int32) (L : Nat → Nat → Int64) : Int32 × (Nat → Nat → Int32) × (Nat → Nat → Int64) :=
  if (I 66 61) = (-1) then
    ((-1), (am_u I 66 0 0), L)
  else
    let q0 := f_182 (Int32.toInt64 x1) 0 1;
    if q0 = 0 then
      ((-1), (am_u I 66 0 0), L)
    else
      if x1 = 0 then
        let q1 := f_182 (Int32.toInt64 x0) 0 ((Int32.toInt64 (I 66 61)) - 1);
        if q1 = 0 then
          ((-1), (am_u I 66 0 0), L)
        else
          if x1 = 0 then
            ((I 98 (Int32.toNatClampNeg x0)), (am_u I 66 0 0), L)
          else
            ((I 66 60), (am_u I 66 0 0), L)
      else
        if x1 = 0 then
          ((I 98 (Int32.toNatClampNeg x0)), (am_u I 66 0 0), L)
        else
          ((I 66 60), (am_u I 66 0 0), L)
def p_301 (x0 : Int32) (x1 : Int32) (I : Nat → Nat → Int32) (L : Nat → Nat → Int64) : Prop :=
  if (I 66 61) = (-1) then
    True
  else
    (let q0 := f_182 (Int32.toInt64 x1) 0 1;
      if q0 = 0 then
        True
      else
        if x1 = 0 then
          (let q1 := f_182 (Int32.toInt64 x0) 0 ((Int32.toInt64 (I 66 61)) - 1);
            if q1 = 0 then
              True
            else
              if x1 = 0 then
                ¬ (x0 < 0 ∨ 8 ≤ Int32.toNatClampNeg x0) ∧
                True
              else
                True)
        else
          if x1 = 0 then
            ¬ (x0 < 0 ∨ 8 ≤ Int32.toNatClampNeg x0) ∧
            True
          else
            True)
set_option maxRecDepth 100000 in
theorem s_301 {S : am_S} {d N : Nat} {T : Nat → Nat × Nat} {I : Nat → Nat → Int32} {L : Nat → Nat → Int64} {r : Nat → Nat → Option Nat} {Q : am_Q} {x0 : Int32} {x1 : Int32} (hp : p_301 x0 x1 I L) (hq : Q (some (.int (f_301 x0 x1 I L).1)) (N, am_ts T, (f_301 x0 x1 I L).2.1, (f_301 x0 x1 I L).2.2, am_rs r)) : am_E S 301 (d + 1) 0 0 0 [.ref 66, .int x0, .int x1] [] (N, am_ts T, I, L, am_rs r) Q := by
  unfold f_301 at hq
  unfold p_301 at hp
  try dsimp only at hq hp
  refine am_E.run [17] 2000 (show (if (I 66 61) = (-1) then (True ∧ Q (some (.int (-1))) (N, am_ts T, (am_u I 66 0 0), L, am_rs r)) else (am_E S 301 (d + 1) 0 0 17 [.ref 66, .int x0, .int x1] [.long 1, .long 0, .long (Int32.toInt64 x1)] (N, am_ts T, (am_u I 66 0 0), L, am_rs r) Q)) from ?_)
  by_cases hc : (I 66 61) = (-1)
  · rw [if_pos hc] at hq hp ⊢
    exact ⟨trivial, hq⟩
  · rw [if_neg hc] at hq hp ⊢
    refine am_E.go ⟨fun v h9 => v = some (.int (f_182 (Int32.toInt64 x1) 0 1)) ∧ h9 = (N, am_ts T, (am_u I 66 0 0), L, am_rs r), s_182 ⟨rfl, rfl⟩, ?_⟩
    intro v h9 hv
    obtain ⟨rfl, rfl⟩ := hv
    generalize he_q0 : f_182 (Int32.toInt64 x1) 0 1 = q0 at hq hp ⊢
    refine am_E.run [37] 2000 (show (if q0 = 0 then (True ∧ Q (some (.int (-1))) (N, am_ts T, (am_u I 66 0 0), L, am_rs r)) else (if x1 = 0 then (am_E S 301 (d + 1) 0 0 37 [.ref 66, .int x0, .int x1] [.long ((Int32.toInt64 (I 66 61)) - 1), .long 0, .long (Int32.toInt64 x0)] (N, am_ts T, (am_u I 66 0 0), L, am_rs r) Q) else (if x1 = 0 then (if x0 < 0 ∨ 8 ≤ Int32.toNatClampNeg x0 then False else (True ∧ Q (some (.int (I 98 (Int32.toNatClampNeg x0)))) (N, am_ts T, (am_u I 66 0 0), L, am_rs r))) else (True ∧ Q (some (.int (I 66 60))) (N, am_ts T, (am_u I 66 0 0), L, am_rs r))))) from ?_)
    by_cases hc : q0 = 0
    · rw [if_pos hc] at hq hp ⊢
      exact ⟨trivial, hq⟩
    · rw [if_neg hc] at hq hp ⊢
      by_cases hc : x1 = 0
      · rw [if_pos hc] at hq hp ⊢
        refine am_E.go ⟨fun v h9 => v = some (.int (f_182 (Int32.toInt64 x0) 0 ((Int32.toInt64 (I 66 61)) - 1))) ∧ h9 = (N, am_ts T, (am_u I 66 0 0), L, am_rs r), s_182 ⟨rfl, rfl⟩, ?_⟩
        intro v h9 hv
        obtain ⟨rfl, rfl⟩ := hv
        generalize he_q1 : f_182 (Int32.toInt64 x0) 0 ((Int32.toInt64 (I 66 61)) - 1) = q1 at hq hp ⊢
        refine am_E.run [] 2000 (show (if q1 = 0 then (True ∧ Q (some (.int (-1))) (N, am_ts T, (am_u I 66 0 0), L, am_rs r)) else (if x1 = 0 then (if x0 < 0 ∨ 8 ≤ Int32.toNatClampNeg x0 then False else (True ∧ Q (some (.int (I 98 (Int32.toNatClampNeg x0)))) (N, am_ts T, (am_u I 66 0 0), L, am_rs r))) else (True ∧ Q (some (.int (I 66 60))) (N, am_ts T, (am_u I 66 0 0), L, am_rs r)))) from ?_)
        by_cases hc : q1 = 0
        · rw [if_pos hc] at hq hp ⊢
          exact ⟨trivial, hq⟩
        · rw [if_neg hc] at hq hp ⊢
          by_cases hc : x1 = 0
          · rw [if_pos hc] at hq hp ⊢
            rw [if_neg hp.1]
            replace hp := hp.2
            exact ⟨trivial, hq⟩
          · rw [if_neg hc] at hq hp ⊢
            exact ⟨trivial, hq⟩
      · rw [if_neg hc] at hq hp ⊢
        by_cases hc : x1 = 0
        · rw [if_pos hc] at hq hp ⊢
          rw [if_neg hp.1]
          replace hp := hp.2
          exact ⟨trivial, hq⟩
        · rw [if_neg hc] at hq hp ⊢
          exact ⟨trivial, hq⟩
/-- KeyKeepersModel.status()I -/
def f_303 (I : Nat → Nat → Int32) (L : Nat → Nat → Int64) : Int32 × (Nat → Nat → Int32) × (Nat → Nat → Int64) :=
  ((I 66 1), (am_u I 66 0 0), L)
set_option maxRecDepth 100000 in
theorem s_303 {S : am_S} {d N : Nat} {T : Nat → Nat × Nat} {I : Nat → Nat → Int32} {L : Nat → Nat → Int64} {r : Nat → Nat → Option Nat} {Q : am_Q} (hq : Q (some (.int (f_303 I L).1)) (N, am_ts T, (f_303 I L).2.1, (f_303 I L).2.2, am_rs r)) : am_E S 303 (d + 0) 0 0 0 [.ref 66] [] (N, am_ts T, I, L, am_rs r) Q := by
  unfold f_303 at hq
  try dsimp only at hq
  refine am_E.run [] 2000 (show (True ∧ Q (some (.int (I 66 1))) (N, am_ts T, (am_u I 66 0 0), L, am_rs r)) from ?_)
  exact ⟨trivial, hq⟩
/-- KeyKeepers.isPlace(I)Z -/
def f_12 (x0 : Int32) : Int32 :=
  let q0 := f_13 x0 0 9;
  q0
def p_12 (x0 : Int32) : Prop :=
  (let q0 := f_13 x0 0 9;
    q0 = 0 ∨ q0 = 1)
set_option maxRecDepth 100000 in
theorem s_12 {S : am_S} {d N : Nat} {T : Nat → Nat × Nat} {I : Nat → Nat → Int32} {L : Nat → Nat → Int64} {r : Nat → Nat → Option Nat} {Q : am_Q} {x0 : Int32} (hp : p_12 x0) (hq : Q (some (.int (f_12 x0))) (N, am_ts T, I, L, am_rs r)) : am_E S 12 (d + 1) 0 0 0 [.int x0] [] (N, am_ts T, I, L, am_rs r) Q := by
  unfold f_12 at hq
  unfold p_12 at hp
  try dsimp only at hq hp
  refine am_E.run [4] 2000 (show (am_E S 12 (d + 1) 0 0 4 [.int x0] [.int 9, .int 0, .int x0] (N, am_ts T, I, L, am_rs r) Q) from ?_)
  refine am_E.go ⟨fun v h9 => v = some (.int (f_13 x0 0 9)) ∧ h9 = (N, am_ts T, I, L, am_rs r), s_13 ⟨rfl, rfl⟩, ?_⟩
  intro v h9 hv
  obtain ⟨rfl, rfl⟩ := hv
  generalize he_q0 : f_13 x0 0 9 = q0 at hq hp ⊢
  refine am_E.run [] 2000 (show ((q0 = 0 ∨ q0 = 1) ∧ Q (some (.int q0)) (N, am_ts T, I, L, am_rs r)) from ?_)
  exact ⟨hp, hq⟩
/-- KeyKeepers.wall(II)I -/
def f_17 (x0 : Int32) (x1 : Int32) (I : Nat → Nat → Int32) (L : Nat → Nat → Int64) : Int32 × (Nat → Nat → Int32) × (Nat → Nat → Int64) :=
  let q0 := f_18 x1;
  if q0 = 0 then
    let q6 := f_14 (-1) I L;
    (q6.1, q6.2.1, q6.2.2)
  else
    let q1 := f_19 x0 I;
    if q1 = 0 then
      let q5 := f_14 (-2) I L;
      (q5.1, q5.2.1, q5.2.2)
    else
      let q2 := f_20 (I 1 3) x0;
      let q3 := f_21 (I 1 3) x0 x1;
      let q4 := f_16 q2 (am_u I 1 3 q3) L;
      (q4.1, q4.2.1, q4.2.2)
def p_17 (x0 : Int32) (x1 : Int32) (I : Nat → Nat → Int32) (L : Nat → Nat → Int64) : Prop :=
  (let q0 := f_18 x1;
    if q0 = 0 then
      p_14 (-1) I L
    else
      (let q1 := f_19 x0 I;
        if q1 = 0 then
          p_14 (-2) I L
        else
          True))
set_option maxRecDepth 100000 in
theorem s_17 {S : am_S} {d N : Nat} {T : Nat → Nat × Nat} {I : Nat → Nat → Int32} {L : Nat → Nat → Int64} {r : Nat → Nat → Option Nat} {Q : am_Q} {x0 : Int32} {x1 : Int32} (hp : p_17 x0 x1 I L) (hq : Q (some (.int (f_17 x0 x1 I L).1)) (N, am_ts T, (f_17 x0 x1 I L).2.1, (f_17 x0 x1 I L).2.2, am_rs r)) : am_E S 17 (d + 1) 0 0 0 [.ref 0, .int x0, .int x1, am_jk] [] (N, am_ts T, I, L, am_rs r) Q := by
  unfold f_17 at hq
  unfold p_17 at hp
  try dsimp only at hq hp
  refine am_E.run [1] 2000 (show (am_E S 17 (d + 1) 0 0 1 [.ref 0, .int x0, .int x1, am_jk] [.int x1] (N, am_ts T, I, L, am_rs r) Q) from ?_)
  refine am_E.go ⟨fun v h9 => v = some (.int (f_18 x1)) ∧ h9 = (N, am_ts T, I, L, am_rs r), s_18 ⟨rfl, rfl⟩, ?_⟩
  intro v h9 hv
  obtain ⟨rfl, rfl⟩ := hv
  generalize he_q0 : f_18 x1 = q0 at hq hp ⊢
  refine am_E.run [9, 18] 2000 (show (if q0 = 0 then (am_E S 17 (d + 1) 0 0 9 [.ref 0, .int x0, .int x1, am_jk] [.int (-1), .ref 0] (N, am_ts T, I, L, am_rs r) Q) else (am_E S 17 (d + 1) 0 0 18 [.ref 0, .int x0, .int x1, am_jk] [.int x0, .ref 1] (N, am_ts T, I, L, am_rs r) Q)) from ?_)
  by_cases hc : q0 = 0
  · rw [if_pos hc] at hq hp ⊢
    refine am_E.go ⟨fun v h9 => v = some (.int (f_14 (-1) I L).1) ∧ h9 = (N, am_ts T, (f_14 (-1) I L).2.1, (f_14 (-1) I L).2.2, am_rs r), s_14 hp ⟨rfl, rfl⟩, ?_⟩
    intro v h9 hv
    obtain ⟨rfl, rfl⟩ := hv
    generalize he_q6 : f_14 (-1) I L = q6 at hq ⊢
    refine am_E.run [] 2000 (show (True ∧ Q (some (.int q6.1)) (N, am_ts T, q6.2.1, q6.2.2, am_rs r)) from ?_)
    exact ⟨trivial, hq⟩
  · rw [if_neg hc] at hq hp ⊢
    refine am_E.go ⟨fun v h9 => v = some (.int (f_19 x0 I)) ∧ h9 = (N, am_ts T, I, L, am_rs r), s_19 ⟨rfl, rfl⟩, ?_⟩
    intro v h9 hv
    obtain ⟨rfl, rfl⟩ := hv
    generalize he_q1 : f_19 x0 I = q1 at hq hp ⊢
    refine am_E.run [27, 39] 2000 (show (if q1 = 0 then (am_E S 17 (d + 1) 0 0 27 [.ref 0, .int x0, .int x1, am_jk] [.int (-2), .ref 0] (N, am_ts T, I, L, am_rs r) Q) else (am_E S 17 (d + 1) 0 0 39 [.ref 0, .int x0, .int x1, am_jk] [.int x0, .int (I 1 3)] (N, am_ts T, I, L, am_rs r) Q)) from ?_)
    by_cases hc : q1 = 0
    · rw [if_pos hc] at hq hp ⊢
      refine am_E.go ⟨fun v h9 => v = some (.int (f_14 (-2) I L).1) ∧ h9 = (N, am_ts T, (f_14 (-2) I L).2.1, (f_14 (-2) I L).2.2, am_rs r), s_14 hp ⟨rfl, rfl⟩, ?_⟩
      intro v h9 hv
      obtain ⟨rfl, rfl⟩ := hv
      generalize he_q5 : f_14 (-2) I L = q5 at hq ⊢
      refine am_E.run [] 2000 (show (True ∧ Q (some (.int q5.1)) (N, am_ts T, q5.2.1, q5.2.2, am_rs r)) from ?_)
      exact ⟨trivial, hq⟩
    · rw [if_neg hc] at hq hp ⊢
      refine am_E.go ⟨fun v h9 => v = some (.int (f_20 (I 1 3) x0)) ∧ h9 = (N, am_ts T, I, L, am_rs r), s_20 ⟨rfl, rfl⟩, ?_⟩
      intro v h9 hv
      obtain ⟨rfl, rfl⟩ := hv
      generalize he_q2 : f_20 (I 1 3) x0 = q2 at hq ⊢
      refine am_E.run [56] 2000 (show (am_E S 17 (d + 1) 0 0 56 [.ref 0, .int x0, .int x1, .int q2] [.int x1, .int x0, .int (I 1 3), .ref 1] (N, am_ts T, I, L, am_rs r) Q) from ?_)
      refine am_E.go ⟨fun v h9 => v = some (.int (f_21 (I 1 3) x0 x1)) ∧ h9 = (N, am_ts T, I, L, am_rs r), s_21 ⟨rfl, rfl⟩, ?_⟩
      intro v h9 hv
      obtain ⟨rfl, rfl⟩ := hv
      generalize he_q3 : f_21 (I 1 3) x0 x1 = q3 at hq ⊢
      refine am_E.run [64] 2000 (show (am_E S 17 (d + 1) 0 0 64 [.ref 0, .int x0, .int x1, .int q2] [.int q2, .ref 0] (N, am_ts T, (am_u I 1 3 q3), L, am_rs r) Q) from ?_)
      refine am_E.go ⟨fun v h9 => v = some (.int (f_16 q2 (am_u I 1 3 q3) L).1) ∧ h9 = (N, am_ts T, (f_16 q2 (am_u I 1 3 q3) L).2.1, (f_16 q2 (am_u I 1 3 q3) L).2.2, am_rs r), s_16 ⟨rfl, rfl⟩, ?_⟩
      intro v h9 hv
      obtain ⟨rfl, rfl⟩ := hv
      generalize he_q4 : f_16 q2 (am_u I 1 3 q3) L = q4 at hq ⊢
      refine am_E.run [] 2000 (show (True ∧ Q (some (.int q4.1)) (N, am_ts T, q4.2.1, q4.2.2, am_rs r)) from ?_)
      exact ⟨trivial, hq⟩
/-- KeyKeepers.canBePrisoner(III)Z -/
def f_23 (x0 : Int32) (x1 : Int32) (x2 : Int32) : Int32 :=
  let q0 := f_13 x0 1 99;
  if q0 = 0 then
    0
  else
    let q1 := f_13 x1 0 9;
    if q1 = 0 then
      0
    else
      let q2 := f_12 x2;
      if q2 = 0 then
        0
      else
        if x2 = 0 then
          0
        else
          1
def p_23 (x0 : Int32) (x1 : Int32) (x2 : Int32) : Prop :=
  (let q0 := f_13 x0 1 99;
    if q0 = 0 then
      True
    else
      (let q1 := f_13 x1 0 9;
        if q1 = 0 then
          True
        else
          p_12 x2))
set_option maxRecDepth 100000 in
theorem s_23 {S : am_S} {d N : Nat} {T : Nat → Nat × Nat} {I : Nat → Nat → Int32} {L : Nat → Nat → Int64} {r : Nat → Nat → Option Nat} {Q : am_Q} {x0 : Int32} {x1 : Int32} {x2 : Int32} (hp : p_23 x0 x1 x2) (hq : Q (some (.int (f_23 x0 x1 x2))) (N, am_ts T, I, L, am_rs r)) : am_E S 23 (d + 2) 0 0 0 [.int x0, .int x1, .int x2] [] (N, am_ts T, I, L, am_rs r) Q := by
  unfold f_23 at hq
  unfold p_23 at hp
  try dsimp only at hq hp
  refine am_E.run [4] 2000 (show (am_E S 23 (d + 2) 0 0 4 [.int x0, .int x1, .int x2] [.int 99, .int 1, .int x0] (N, am_ts T, I, L, am_rs r) Q) from ?_)
  refine am_E.go ⟨fun v h9 => v = some (.int (f_13 x0 1 99)) ∧ h9 = (N, am_ts T, I, L, am_rs r), s_13 ⟨rfl, rfl⟩, ?_⟩
  intro v h9 hv
  obtain ⟨rfl, rfl⟩ := hv
  generalize he_q0 : f_13 x0 1 99 = q0 at hq hp ⊢
  refine am_E.run [14] 2000 (show (if q0 = 0 then (((0 : Int32) = 0 ∨ (0 : Int32) = 1) ∧ Q (some (.int 0)) (N, am_ts T, I, L, am_rs r)) else (am_E S 23 (d + 2) 0 0 14 [.int x0, .int x1, .int x2] [.int 9, .int 0, .int x1] (N, am_ts T, I, L, am_rs r) Q)) from ?_)
  by_cases hc : q0 = 0
  · rw [if_pos hc] at hq hp ⊢
    exact ⟨Or.inl rfl, hq⟩
  · rw [if_neg hc] at hq hp ⊢
    refine am_E.go ⟨fun v h9 => v = some (.int (f_13 x1 0 9)) ∧ h9 = (N, am_ts T, I, L, am_rs r), s_13 ⟨rfl, rfl⟩, ?_⟩
    intro v h9 hv
    obtain ⟨rfl, rfl⟩ := hv
    generalize he_q1 : f_13 x1 0 9 = q1 at hq hp ⊢
    refine am_E.run [21] 2000 (show (if q1 = 0 then (((0 : Int32) = 0 ∨ (0 : Int32) = 1) ∧ Q (some (.int 0)) (N, am_ts T, I, L, am_rs r)) else (am_E S 23 (d + 2) 0 0 21 [.int x0, .int x1, .int x2] [.int x2] (N, am_ts T, I, L, am_rs r) Q)) from ?_)
    by_cases hc : q1 = 0
    · rw [if_pos hc] at hq hp ⊢
      exact ⟨Or.inl rfl, hq⟩
    · rw [if_neg hc] at hq hp ⊢
      refine am_E.go ⟨fun v h9 => v = some (.int (f_12 x2)) ∧ h9 = (N, am_ts T, I, L, am_rs r), s_12 hp ⟨rfl, rfl⟩, ?_⟩
      intro v h9 hv
      obtain ⟨rfl, rfl⟩ := hv
      generalize he_q2 : f_12 x2 = q2 at hq ⊢
      refine am_E.run [] 2000 (show (if q2 = 0 then (((0 : Int32) = 0 ∨ (0 : Int32) = 1) ∧ Q (some (.int 0)) (N, am_ts T, I, L, am_rs r)) else (if x2 = 0 then (((0 : Int32) = 0 ∨ (0 : Int32) = 1) ∧ Q (some (.int 0)) (N, am_ts T, I, L, am_rs r)) else (((1 : Int32) = 0 ∨ (1 : Int32) = 1) ∧ Q (some (.int 1)) (N, am_ts T, I, L, am_rs r)))) from ?_)
      by_cases hc : q2 = 0
      · rw [if_pos hc] at hq ⊢
        exact ⟨Or.inl rfl, hq⟩
      · rw [if_neg hc] at hq ⊢
        by_cases hc : x2 = 0
        · rw [if_pos hc] at hq ⊢
          exact ⟨Or.inl rfl, hq⟩
        · rw [if_neg hc] at hq ⊢
          exact ⟨Or.inr rfl, hq⟩
/-- KeyKeepers.admit(III)Z -/
def f_36 (x0 : Int32) (x1 : Int32) (x2 : Int32) (I : Nat → Nat → Int32) (L : Nat → Nat → Int64) : Int32 × (Nat → Nat → Int32) × (Nat → Nat → Int64) :=
  if (8 : Int32) ≤ (I 1 10) then
    (0, I, L)
  else
    let q0 := f_23 x0 x1 x2;
    if q0 = 0 then
      (0, I, L)
    else
      let q1 := f_25 x0 x1 x2 I L;
      (1, q1.2.1, q1.2.2)
def p_36 (x0 : Int32) (x1 : Int32) (x2 : Int32) (I : Nat → Nat → Int32) (L : Nat → Nat → Int64) : Prop :=
  if (8 : Int32) ≤ (I 1 10) then
    True
  else
    p_23 x0 x1 x2 ∧
    (let q0 := f_23 x0 x1 x2;
      if q0 = 0 then
        True
      else
        p_25 x0 x1 x2 I L)
set_option maxRecDepth 100000 in
theorem s_36 {S : am_S} {d N : Nat} {T : Nat → Nat × Nat} {I : Nat → Nat → Int32} {L : Nat → Nat → Int64} {r : Nat → Nat → Option Nat} {Q : am_Q} {x0 : Int32} {x1 : Int32} {x2 : Int32} (hp : p_36 x0 x1 x2 I L) (hq : Q (some (.int (f_36 x0 x1 x2 I L).1)) (N, am_ts T, (f_36 x0 x1 x2 I L).2.1, (f_36 x0 x1 x2 I L).2.2, am_rs r)) : am_E S 36 (d + 3) 0 0 0 [.ref 0, .int x0, .int x1, .int x2] [] (N, am_ts T, I, L, am_rs r) Q := by
  unfold f_36 at hq
  unfold p_36 at hp
  try dsimp only at hq hp
  refine am_E.run [15] 2000 (show (if (8 : Int32) ≤ (I 1 10) then (((0 : Int32) = 0 ∨ (0 : Int32) = 1) ∧ Q (some (.int 0)) (N, am_ts T, I, L, am_rs r)) else (am_E S 36 (d + 3) 0 0 15 [.ref 0, .int x0, .int x1, .int x2] [.int x2, .int x1, .int x0] (N, am_ts T, I, L, am_rs r) Q)) from ?_)
  by_cases hc : (8 : Int32) ≤ (I 1 10)
  · rw [if_pos hc] at hq hp ⊢
    exact ⟨Or.inl rfl, hq⟩
  · rw [if_neg hc] at hq hp ⊢
    refine am_E.go ⟨fun v h9 => v = some (.int (f_23 x0 x1 x2)) ∧ h9 = (N, am_ts T, I, L, am_rs r), s_23 hp.1 ⟨rfl, rfl⟩, ?_⟩
    replace hp := hp.2
    intro v h9 hv
    obtain ⟨rfl, rfl⟩ := hv
    generalize he_q0 : f_23 x0 x1 x2 = q0 at hq hp ⊢
    refine am_E.run [30] 2000 (show (if q0 = 0 then (((0 : Int32) = 0 ∨ (0 : Int32) = 1) ∧ Q (some (.int 0)) (N, am_ts T, I, L, am_rs r)) else (am_E S 36 (d + 3) 0 0 30 [.ref 0, .int x0, .int x1, .int x2] [.int x2, .int x1, .int x0, .ref 1] (N, am_ts T, I, L, am_rs r) Q)) from ?_)
    by_cases hc : q0 = 0
    · rw [if_pos hc] at hq hp ⊢
      exact ⟨Or.inl rfl, hq⟩
    · rw [if_neg hc] at hq hp ⊢
      refine am_E.go ⟨fun v h9 => v = some (.int (f_25 x0 x1 x2 I L).1) ∧ h9 = (N, am_ts T, (f_25 x0 x1 x2 I L).2.1, (f_25 x0 x1 x2 I L).2.2, am_rs r), s_25 hp ⟨rfl, rfl⟩, ?_⟩
      intro v h9 hv
      obtain ⟨rfl, rfl⟩ := hv
      generalize he_q1 : f_25 x0 x1 x2 I L = q1 at hq ⊢
      refine am_E.run [] 2000 (show (((1 : Int32) = 0 ∨ (1 : Int32) = 1) ∧ Q (some (.int 1)) (N, am_ts T, q1.2.1, q1.2.2, am_rs r)) from ?_)
      exact ⟨Or.inr rfl, hq⟩
/-- KeyKeepers.force(I)I -/
def f_105 (x0 : Int32) (I : Nat → Nat → Int32) (L : Nat → Nat → Int64) : Int32 × (Nat → Nat → Int32) × (Nat → Nat → Int64) :=
  if x0 = (-1) then
    let q0 := f_16 (I 1 16) (am_u I 1 16 x0) L;
    (q0.1, q0.2.1, q0.2.2)
  else
    let q1 := f_106 x0 I;
    if q1 = 0 then
      let q3 := f_14 (-2) I L;
      (q3.1, q3.2.1, q3.2.2)
    else
      let q2 := f_16 (I 1 16) (am_u I 1 16 x0) L;
      (q2.1, q2.2.1, q2.2.2)
def p_105 (x0 : Int32) (I : Nat → Nat → Int32) (L : Nat → Nat → Int64) : Prop :=
  if x0 = (-1) then
    True
  else
    (let q1 := f_106 x0 I;
      if q1 = 0 then
        p_14 (-2) I L
      else
        True)
set_option maxRecDepth 100000 in
theorem s_105 {S : am_S} {d N : Nat} {T : Nat → Nat × Nat} {I : Nat → Nat → Int32} {L : Nat → Nat → Int64} {r : Nat → Nat → Option Nat} {Q : am_Q} {x0 : Int32} (hp : p_105 x0 I L) (hq : Q (some (.int (f_105 x0 I L).1)) (N, am_ts T, (f_105 x0 I L).2.1, (f_105 x0 I L).2.2, am_rs r)) : am_E S 105 (d + 1) 0 0 0 [.ref 0, .int x0, am_jk] [] (N, am_ts T, I, L, am_rs r) Q := by
  unfold f_105 at hq
  unfold p_105 at hp
  try dsimp only at hq hp
  refine am_E.run [10, 41] 2000 (show (if x0 = (-1) then (am_E S 105 (d + 1) 0 0 41 [.ref 0, .int x0, .int (I 1 16)] [.int (I 1 16), .ref 0] (N, am_ts T, (am_u I 1 16 x0), L, am_rs r) Q) else (am_E S 105 (d + 1) 0 0 10 [.ref 0, .int x0, am_jk] [.int x0, .ref 1] (N, am_ts T, I, L, am_rs r) Q)) from ?_)
  by_cases hc : x0 = (-1)
  · rw [if_pos hc] at hq hp ⊢
    refine am_E.go ⟨fun v h9 => v = some (.int (f_16 (I 1 16) (am_u I 1 16 x0) L).1) ∧ h9 = (N, am_ts T, (f_16 (I 1 16) (am_u I 1 16 x0) L).2.1, (f_16 (I 1 16) (am_u I 1 16 x0) L).2.2, am_rs r), s_16 ⟨rfl, rfl⟩, ?_⟩
    intro v h9 hv
    obtain ⟨rfl, rfl⟩ := hv
    generalize he_q0 : f_16 (I 1 16) (am_u I 1 16 x0) L = q0 at hq ⊢
    refine am_E.run [] 2000 (show (True ∧ Q (some (.int q0.1)) (N, am_ts T, q0.2.1, q0.2.2, am_rs r)) from ?_)
    exact ⟨trivial, hq⟩
  · rw [if_neg hc] at hq hp ⊢
    refine am_E.go ⟨fun v h9 => v = some (.int (f_106 x0 I)) ∧ h9 = (N, am_ts T, I, L, am_rs r), s_106 ⟨rfl, rfl⟩, ?_⟩
    intro v h9 hv
    obtain ⟨rfl, rfl⟩ := hv
    generalize he_q1 : f_106 x0 I = q1 at hq hp ⊢
    refine am_E.run [19, 41] 2000 (show (if q1 = 0 then (am_E S 105 (d + 1) 0 0 19 [.ref 0, .int x0, am_jk] [.int (-2), .ref 0] (N, am_ts T, I, L, am_rs r) Q) else (am_E S 105 (d + 1) 0 0 41 [.ref 0, .int x0, .int (I 1 16)] [.int (I 1 16), .ref 0] (N, am_ts T, (am_u I 1 16 x0), L, am_rs r) Q)) from ?_)
    by_cases hc : q1 = 0
    · rw [if_pos hc] at hq hp ⊢
      refine am_E.go ⟨fun v h9 => v = some (.int (f_14 (-2) I L).1) ∧ h9 = (N, am_ts T, (f_14 (-2) I L).2.1, (f_14 (-2) I L).2.2, am_rs r), s_14 hp ⟨rfl, rfl⟩, ?_⟩
      intro v h9 hv
      obtain ⟨rfl, rfl⟩ := hv
      generalize he_q3 : f_14 (-2) I L = q3 at hq ⊢
      refine am_E.run [] 2000 (show (True ∧ Q (some (.int q3.1)) (N, am_ts T, q3.2.1, q3.2.2, am_rs r)) from ?_)
      exact ⟨trivial, hq⟩
    · rw [if_neg hc] at hq hp ⊢
      refine am_E.go ⟨fun v h9 => v = some (.int (f_16 (I 1 16) (am_u I 1 16 x0) L).1) ∧ h9 = (N, am_ts T, (f_16 (I 1 16) (am_u I 1 16 x0) L).2.1, (f_16 (I 1 16) (am_u I 1 16 x0) L).2.2, am_rs r), s_16 ⟨rfl, rfl⟩, ?_⟩
      intro v h9 hv
      obtain ⟨rfl, rfl⟩ := hv
      generalize he_q2 : f_16 (I 1 16) (am_u I 1 16 x0) L = q2 at hq ⊢
      refine am_E.run [] 2000 (show (True ∧ Q (some (.int q2.1)) (N, am_ts T, q2.2.1, q2.2.2, am_rs r)) from ?_)
      exact ⟨trivial, hq⟩
/-- KeyKeepers$Judge.setWords(LKeyKeepers$Prison;IIII)V -/
def f_110 (x1 : Int32) (x2 : Int32) (x3 : Int32) (x4 : Int32) (I : Nat → Nat → Int32) (L : Nat → Nat → Int64) : Int32 × (Nat → Nat → Int32) × (Nat → Nat → Int64) :=
  let q0 := f_111 (I 7 (Int32.toNatClampNeg x1));
  (0, (am_u (am_u (am_u (am_u (am_u (am_u (am_u (am_u (am_u (am_u I 25 0 x1) 25 1 (I 4 (Int32.toNatClampNeg x1))) 25 2 (I 5 (Int32.toNatClampNeg x1))) 25 3 q0) 25 4 x2) 25 5 x3) 25 6 x4) 25 7 (I 12 0)) 25 8 (I 12 2)) 25 9 (I 12 3)), L)
def p_110 (x1 : Int32) (x2 : Int32) (x3 : Int32) (x4 : Int32) (I : Nat → Nat → Int32) (L : Nat → Nat → Int64) : Prop :=
  ¬ (x1 < 0 ∨ 8 ≤ Int32.toNatClampNeg x1) ∧
  ¬ (x1 < 0 ∨ 8 ≤ Int32.toNatClampNeg x1) ∧
  ¬ (x1 < 0 ∨ 8 ≤ Int32.toNatClampNeg x1) ∧
  True
set_option maxRecDepth 100000 in
theorem s_110 {S : am_S} {d N : Nat} {T : Nat → Nat × Nat} {I : Nat → Nat → Int32} {L : Nat → Nat → Int64} {r : Nat → Nat → Option Nat} {Q : am_Q} {x1 : Int32} {x2 : Int32} {x3 : Int32} {x4 : Int32} (hp : p_110 x1 x2 x3 x4 I L) (hq : Q (none) (N, am_ts T, (f_110 x1 x2 x3 x4 I L).2.1, (f_110 x1 x2 x3 x4 I L).2.2, am_rs r)) : am_E S 110 (d + 1) 0 0 0 [.ref 23, .ref 1, .int x1, .int x2, .int x3, .int x4, am_jk] [] (N, am_ts T, I, L, am_rs r) Q := by
  unfold f_110 at hq
  unfold p_110 at hp
  try dsimp only at hq hp
  refine am_E.run [43] 2000 (show (if x1 < 0 ∨ 8 ≤ Int32.toNatClampNeg x1 then False else (if x1 < 0 ∨ 8 ≤ Int32.toNatClampNeg x1 then False else (if x1 < 0 ∨ 8 ≤ Int32.toNatClampNeg x1 then False else (am_E S 110 (d + 1) 0 0 43 [.ref 23, .ref 1, .int x1, .int x2, .int x3, .int x4, .ref 25] [.int (I 7 (Int32.toNatClampNeg x1)), .int 3, .ref 25] (N, am_ts T, (am_u (am_u (am_u I 25 0 x1) 25 1 (I 4 (Int32.toNatClampNeg x1))) 25 2 (I 5 (Int32.toNatClampNeg x1))), L, am_rs r) Q)))) from ?_)
  rw [if_neg hp.1]
  replace hp := hp.2
  rw [if_neg hp.1]
  replace hp := hp.2
  rw [if_neg hp.1]
  replace hp := hp.2
  refine am_E.go ⟨fun v h9 => v = some (.int (f_111 (I 7 (Int32.toNatClampNeg x1)))) ∧ h9 = (N, am_ts T, (am_u (am_u (am_u I 25 0 x1) 25 1 (I 4 (Int32.toNatClampNeg x1))) 25 2 (I 5 (Int32.toNatClampNeg x1))), L, am_rs r), s_111 ⟨rfl, rfl⟩, ?_⟩
  intro v h9 hv
  obtain ⟨rfl, rfl⟩ := hv
  generalize he_q0 : f_111 (I 7 (Int32.toNatClampNeg x1)) = q0 at hq ⊢
  refine am_E.run [] 2000 (show (True ∧ Q (none) (N, am_ts T, (am_u (am_u (am_u (am_u (am_u (am_u (am_u (am_u (am_u (am_u I 25 0 x1) 25 1 (I 4 (Int32.toNatClampNeg x1))) 25 2 (I 5 (Int32.toNatClampNeg x1))) 25 3 q0) 25 4 x2) 25 5 x3) 25 6 x4) 25 7 (I 12 0)) 25 8 (I 12 2)) 25 9 (I 12 3)), L, am_rs r)) from ?_)
  exact ⟨trivial, hq⟩
/-- KeyKeepers.tally(II)I -/
def f_152 (x0 : Int32) (x1 : Int32) (I : Nat → Nat → Int32) (L : Nat → Nat → Int64) : Int32 × (Nat → Nat → Int32) × (Nat → Nat → Int64) :=
  let q0 := f_153 I;
  let q1 := f_13 x0 0 q0;
  if q1 = 0 then
    let q2 := f_14 (-1) I L;
    (q2.1, q2.2.1, q2.2.2)
  else
    let q3 := f_111 x0;
    let q4 := f_13 x1 0 q3;
    if q4 = 0 then
      let q8 := f_14 (-1) I L;
      (q8.1, q8.2.1, q8.2.2)
    else
      if (I 1 13) < 8 then
        let q5 := f_154 x0 x1 I L;
        let q6 := f_16 q5.1 q5.2.1 q5.2.2;
        (q6.1, q6.2.1, q6.2.2)
      else
        let q7 := f_14 (-5) I L;
        (q7.1, q7.2.1, q7.2.2)
def p_152 (x0 : Int32) (x1 : Int32) (I : Nat → Nat → Int32) (L : Nat → Nat → Int64) : Prop :=
  (let q0 := f_153 I;
    (let q1 := f_13 x0 0 q0;
      if q1 = 0 then
        p_14 (-1) I L
      else
        (let q3 := f_111 x0;
          (let q4 := f_13 x1 0 q3;
            if q4 = 0 then
              p_14 (-1) I L
            else
              if (I 1 13) < 8 then
                p_154 x0 x1 I L
              else
                p_14 (-5) I L))))
set_option maxRecDepth 100000 in
theorem s_152 {S : am_S} {d N : Nat} {T : Nat → Nat × Nat} {I : Nat → Nat → Int32} {L : Nat → Nat → Int64} {r : Nat → Nat → Option Nat} {Q : am_Q} {x0 : Int32} {x1 : Int32} (hp : p_152 x0 x1 I L) (hq : Q (some (.int (f_152 x0 x1 I L).1)) (N, am_ts T, (f_152 x0 x1 I L).2.1, (f_152 x0 x1 I L).2.2, am_rs r)) : am_E S 152 (d + 1) 0 0 0 [.ref 0, .int x0, .int x1] [] (N, am_ts T, I, L, am_rs r) Q := by
  unfold f_152 at hq
  unfold p_152 at hp
  try dsimp only at hq hp
  refine am_E.run [6] 2000 (show (am_E S 152 (d + 1) 0 0 6 [.ref 0, .int x0, .int x1] [.ref 1, .int 0, .int x0] (N, am_ts T, I, L, am_rs r) Q) from ?_)
  refine am_E.go ⟨fun v h9 => v = some (.int (f_153 I)) ∧ h9 = (N, am_ts T, I, L, am_rs r), s_153 ⟨rfl, rfl⟩, ?_⟩
  intro v h9 hv
  obtain ⟨rfl, rfl⟩ := hv
  generalize he_q0 : f_153 I = q0 at hq hp ⊢
  refine am_E.run [9] 2000 (show (am_E S 152 (d + 1) 0 0 9 [.ref 0, .int x0, .int x1] [.int q0, .int 0, .int x0] (N, am_ts T, I, L, am_rs r) Q) from ?_)
  refine am_E.go ⟨fun v h9 => v = some (.int (f_13 x0 0 q0)) ∧ h9 = (N, am_ts T, I, L, am_rs r), s_13 ⟨rfl, rfl⟩, ?_⟩
  intro v h9 hv
  obtain ⟨rfl, rfl⟩ := hv
  generalize he_q1 : f_13 x0 0 q0 = q1 at hq hp ⊢
  refine am_E.run [18, 29] 2000 (show (if q1 = 0 then (am_E S 152 (d + 1) 0 0 29 [.ref 0, .int x0, .int x1] [.int (-1), .ref 0] (N, am_ts T, I, L, am_rs r) Q) else (am_E S 152 (d + 1) 0 0 18 [.ref 0, .int x0, .int x1] [.int x0, .int 0, .int x1] (N, am_ts T, I, L, am_rs r) Q)) from ?_)
  by_cases hc : q1 = 0
  · rw [if_pos hc] at hq hp ⊢
    refine am_E.go ⟨fun v h9 => v = some (.int (f_14 (-1) I L).1) ∧ h9 = (N, am_ts T, (f_14 (-1) I L).2.1, (f_14 (-1) I L).2.2, am_rs r), s_14 hp ⟨rfl, rfl⟩, ?_⟩
    intro v h9 hv
    obtain ⟨rfl, rfl⟩ := hv
    generalize he_q2 : f_14 (-1) I L = q2 at hq ⊢
    refine am_E.run [] 2000 (show (True ∧ Q (some (.int q2.1)) (N, am_ts T, q2.2.1, q2.2.2, am_rs r)) from ?_)
    exact ⟨trivial, hq⟩
  · rw [if_neg hc] at hq hp ⊢
    refine am_E.go ⟨fun v h9 => v = some (.int (f_111 x0)) ∧ h9 = (N, am_ts T, I, L, am_rs r), s_111 ⟨rfl, rfl⟩, ?_⟩
    intro v h9 hv
    obtain ⟨rfl, rfl⟩ := hv
    generalize he_q3 : f_111 x0 = q3 at hq hp ⊢
    refine am_E.run [21] 2000 (show (am_E S 152 (d + 1) 0 0 21 [.ref 0, .int x0, .int x1] [.int q3, .int 0, .int x1] (N, am_ts T, I, L, am_rs r) Q) from ?_)
    refine am_E.go ⟨fun v h9 => v = some (.int (f_13 x1 0 q3)) ∧ h9 = (N, am_ts T, I, L, am_rs r), s_13 ⟨rfl, rfl⟩, ?_⟩
    intro v h9 hv
    obtain ⟨rfl, rfl⟩ := hv
    generalize he_q4 : f_13 x1 0 q3 = q4 at hq hp ⊢
    refine am_E.run [29, 48, 59] 2000 (show (if q4 = 0 then (am_E S 152 (d + 1) 0 0 29 [.ref 0, .int x0, .int x1] [.int (-1), .ref 0] (N, am_ts T, I, L, am_rs r) Q) else (if (I 1 13) < 8 then (am_E S 152 (d + 1) 0 0 59 [.ref 0, .int x0, .int x1] [.int x1, .int x0, .ref 1, .ref 0] (N, am_ts T, I, L, am_rs r) Q) else (am_E S 152 (d + 1) 0 0 48 [.ref 0, .int x0, .int x1] [.int (-5), .ref 0] (N, am_ts T, I, L, am_rs r) Q))) from ?_)
    by_cases hc : q4 = 0
    · rw [if_pos hc] at hq hp ⊢
      refine am_E.go ⟨fun v h9 => v = some (.int (f_14 (-1) I L).1) ∧ h9 = (N, am_ts T, (f_14 (-1) I L).2.1, (f_14 (-1) I L).2.2, am_rs r), s_14 hp ⟨rfl, rfl⟩, ?_⟩
      intro v h9 hv
      obtain ⟨rfl, rfl⟩ := hv
      generalize he_q8 : f_14 (-1) I L = q8 at hq ⊢
      refine am_E.run [] 2000 (show (True ∧ Q (some (.int q8.1)) (N, am_ts T, q8.2.1, q8.2.2, am_rs r)) from ?_)
      exact ⟨trivial, hq⟩
    · rw [if_neg hc] at hq hp ⊢
      by_cases hc : (I 1 13) < 8
      · rw [if_pos hc] at hq hp ⊢
        refine am_E.go ⟨fun v h9 => v = some (.int (f_154 x0 x1 I L).1) ∧ h9 = (N, am_ts T, (f_154 x0 x1 I L).2.1, (f_154 x0 x1 I L).2.2, am_rs r), s_154 hp ⟨rfl, rfl⟩, ?_⟩
        intro v h9 hv
        obtain ⟨rfl, rfl⟩ := hv
        generalize he_q5 : f_154 x0 x1 I L = q5 at hq ⊢
        refine am_E.run [62] 2000 (show (am_E S 152 (d + 1) 0 0 62 [.ref 0, .int x0, .int x1] [.int q5.1, .ref 0] (N, am_ts T, q5.2.1, q5.2.2, am_rs r) Q) from ?_)
        refine am_E.go ⟨fun v h9 => v = some (.int (f_16 q5.1 q5.2.1 q5.2.2).1) ∧ h9 = (N, am_ts T, (f_16 q5.1 q5.2.1 q5.2.2).2.1, (f_16 q5.1 q5.2.1 q5.2.2).2.2, am_rs r), s_16 ⟨rfl, rfl⟩, ?_⟩
        intro v h9 hv
        obtain ⟨rfl, rfl⟩ := hv
        generalize he_q6 : f_16 q5.1 q5.2.1 q5.2.2 = q6 at hq ⊢
        refine am_E.run [] 2000 (show (True ∧ Q (some (.int q6.1)) (N, am_ts T, q6.2.1, q6.2.2, am_rs r)) from ?_)
        exact ⟨trivial, hq⟩
      · rw [if_neg hc] at hq hp ⊢
        refine am_E.go ⟨fun v h9 => v = some (.int (f_14 (-5) I L).1) ∧ h9 = (N, am_ts T, (f_14 (-5) I L).2.1, (f_14 (-5) I L).2.2, am_rs r), s_14 hp ⟨rfl, rfl⟩, ?_⟩
        intro v h9 hv
        obtain ⟨rfl, rfl⟩ := hv
        generalize he_q7 : f_14 (-5) I L = q7 at hq ⊢
        refine am_E.run [] 2000 (show (True ∧ Q (some (.int q7.1)) (N, am_ts T, q7.2.1, q7.2.2, am_rs r)) from ?_)
        exact ⟨trivial, hq⟩
/-- KeyKeepersModel.wall(II)I -/
def f_186 (x0 : Int32) (x1 : Int32) (I : Nat → Nat → Int32) (L : Nat → Nat → Int64) : Int32 × (Nat → Nat → Int32) × (Nat → Nat → Int64) :=
  let q0 := f_182 (Int32.toInt64 x1) 0 1;
  if q0 = 0 then
    let q4 := f_179 (-1) (am_u I 66 0 0) L;
    (q4.1, q4.2.1, q4.2.2)
  else
    let q1 := f_187 x0 (am_u I 66 0 0);
    if q1 = 0 then
      let q2 := f_179 (-2) (am_u I 66 0 0) L;
      (q2.1, q2.2.1, q2.2.2)
    else
      let q3 := f_188 ((58 + (3 * x0)) + 2) x1 (am_u I 66 0 0) L;
      (q3.1, q3.2.1, q3.2.2)
def p_186 (x0 : Int32) (x1 : Int32) (I : Nat → Nat → Int32) (L : Nat → Nat → Int64) : Prop :=
  (let q0 := f_182 (Int32.toInt64 x1) 0 1;
    if q0 = 0 then
      p_179 (-1) (am_u I 66 0 0) L
    else
      p_187 x0 (am_u I 66 0 0) ∧
      (let q1 := f_187 x0 (am_u I 66 0 0);
        if q1 = 0 then
          p_179 (-2) (am_u I 66 0 0) L
        else
          p_188 ((58 + (3 * x0)) + 2) x1 (am_u I 66 0 0) L))
set_option maxRecDepth 100000 in
theorem s_186 {S : am_S} {d N : Nat} {T : Nat → Nat × Nat} {I : Nat → Nat → Int32} {L : Nat → Nat → Int64} {r : Nat → Nat → Option Nat} {Q : am_Q} {x0 : Int32} {x1 : Int32} (hp : p_186 x0 x1 I L) (hq : Q (some (.int (f_186 x0 x1 I L).1)) (N, am_ts T, (f_186 x0 x1 I L).2.1, (f_186 x0 x1 I L).2.2, am_rs r)) : am_E S 186 (d + 2) 0 0 0 [.ref 66, .int x0, .int x1] [] (N, am_ts T, I, L, am_rs r) Q := by
  unfold f_186 at hq
  unfold p_186 at hp
  try dsimp only at hq hp
  refine am_E.run [9] 2000 (show (am_E S 186 (d + 2) 0 0 9 [.ref 66, .int x0, .int x1] [.long 1, .long 0, .long (Int32.toInt64 x1)] (N, am_ts T, (am_u I 66 0 0), L, am_rs r) Q) from ?_)
  refine am_E.go ⟨fun v h9 => v = some (.int (f_182 (Int32.toInt64 x1) 0 1)) ∧ h9 = (N, am_ts T, (am_u I 66 0 0), L, am_rs r), s_182 ⟨rfl, rfl⟩, ?_⟩
  intro v h9 hv
  obtain ⟨rfl, rfl⟩ := hv
  generalize he_q0 : f_182 (Int32.toInt64 x1) 0 1 = q0 at hq hp ⊢
  refine am_E.run [17, 23] 2000 (show (if q0 = 0 then (am_E S 186 (d + 2) 0 0 17 [.ref 66, .int x0, .int x1] [.int (-1), .ref 66] (N, am_ts T, (am_u I 66 0 0), L, am_rs r) Q) else (am_E S 186 (d + 2) 0 0 23 [.ref 66, .int x0, .int x1] [.int x0, .ref 66] (N, am_ts T, (am_u I 66 0 0), L, am_rs r) Q)) from ?_)
  by_cases hc : q0 = 0
  · rw [if_pos hc] at hq hp ⊢
    refine am_E.go ⟨fun v h9 => v = some (.int (f_179 (-1) (am_u I 66 0 0) L).1) ∧ h9 = (N, am_ts T, (f_179 (-1) (am_u I 66 0 0) L).2.1, (f_179 (-1) (am_u I 66 0 0) L).2.2, am_rs r), s_179 hp ⟨rfl, rfl⟩, ?_⟩
    intro v h9 hv
    obtain ⟨rfl, rfl⟩ := hv
    generalize he_q4 : f_179 (-1) (am_u I 66 0 0) L = q4 at hq ⊢
    refine am_E.run [] 2000 (show (True ∧ Q (some (.int q4.1)) (N, am_ts T, q4.2.1, q4.2.2, am_rs r)) from ?_)
    exact ⟨trivial, hq⟩
  · rw [if_neg hc] at hq hp ⊢
    refine am_E.go ⟨fun v h9 => v = some (.int (f_187 x0 (am_u I 66 0 0))) ∧ h9 = (N, am_ts T, (am_u I 66 0 0), L, am_rs r), s_187 hp.1 ⟨rfl, rfl⟩, ?_⟩
    replace hp := hp.2
    intro v h9 hv
    obtain ⟨rfl, rfl⟩ := hv
    generalize he_q1 : f_187 x0 (am_u I 66 0 0) = q1 at hq hp ⊢
    refine am_E.run [39, 48] 2000 (show (if q1 = 0 then (am_E S 186 (d + 2) 0 0 48 [.ref 66, .int x0, .int x1] [.int (-2), .ref 66] (N, am_ts T, (am_u I 66 0 0), L, am_rs r) Q) else (am_E S 186 (d + 2) 0 0 39 [.ref 66, .int x0, .int x1] [.int x1, .int ((58 + (3 * x0)) + 2), .ref 66] (N, am_ts T, (am_u I 66 0 0), L, am_rs r) Q)) from ?_)
    by_cases hc : q1 = 0
    · rw [if_pos hc] at hq hp ⊢
      refine am_E.go ⟨fun v h9 => v = some (.int (f_179 (-2) (am_u I 66 0 0) L).1) ∧ h9 = (N, am_ts T, (f_179 (-2) (am_u I 66 0 0) L).2.1, (f_179 (-2) (am_u I 66 0 0) L).2.2, am_rs r), s_179 hp ⟨rfl, rfl⟩, ?_⟩
      intro v h9 hv
      obtain ⟨rfl, rfl⟩ := hv
      generalize he_q2 : f_179 (-2) (am_u I 66 0 0) L = q2 at hq ⊢
      refine am_E.run [] 2000 (show (True ∧ Q (some (.int q2.1)) (N, am_ts T, q2.2.1, q2.2.2, am_rs r)) from ?_)
      exact ⟨trivial, hq⟩
    · rw [if_neg hc] at hq hp ⊢
      refine am_E.go ⟨fun v h9 => v = some (.int (f_188 ((58 + (3 * x0)) + 2) x1 (am_u I 66 0 0) L).1) ∧ h9 = (N, am_ts T, (f_188 ((58 + (3 * x0)) + 2) x1 (am_u I 66 0 0) L).2.1, (f_188 ((58 + (3 * x0)) + 2) x1 (am_u I 66 0 0) L).2.2, am_rs r), s_188 hp ⟨rfl, rfl⟩, ?_⟩
      intro v h9 hv
      obtain ⟨rfl, rfl⟩ := hv
      generalize he_q3 : f_188 ((58 + (3 * x0)) + 2) x1 (am_u I 66 0 0) L = q3 at hq ⊢
      refine am_E.run [] 2000 (show (True ∧ Q (some (.int q3.1)) (N, am_ts T, q3.2.1, q3.2.2, am_rs r)) from ?_)
      exact ⟨trivial, hq⟩
/-- KeyKeepersModel.prisoner(III)I -/
def f_189 (x0 : Int32) (x1 : Int32) (x2 : Int32) (I : Nat → Nat → Int32) (L : Nat → Nat → Int64) : Int32 × (Nat → Nat → Int32) × (Nat → Nat → Int64) :=
  let q0 := f_190 x0 x1 x2 (am_u I 66 0 0) L;
  let q1 := f_184 q0.1 q0.2.1 q0.2.2;
  (q1.1, q1.2.1, q1.2.2)
def p_189 (x0 : Int32) (x1 : Int32) (x2 : Int32) (I : Nat → Nat → Int32) (L : Nat → Nat → Int64) : Prop :=
  p_190 x0 x1 x2 (am_u I 66 0 0) L ∧
  (let q0 := f_190 x0 x1 x2 (am_u I 66 0 0) L;
    p_184 q0.1 q0.2.1 q0.2.2)
set_option maxRecDepth 100000 in
theorem s_189 {S : am_S} {d N : Nat} {T : Nat → Nat × Nat} {I : Nat → Nat → Int32} {L : Nat → Nat → Int64} {r : Nat → Nat → Option Nat} {Q : am_Q} {x0 : Int32} {x1 : Int32} {x2 : Int32} (hp : p_189 x0 x1 x2 I L) (hq : Q (some (.int (f_189 x0 x1 x2 I L).1)) (N, am_ts T, (f_189 x0 x1 x2 I L).2.1, (f_189 x0 x1 x2 I L).2.2, am_rs r)) : am_E S 189 (d + 2) 0 0 0 [.ref 66, .int x0, .int x1, .int x2] [] (N, am_ts T, I, L, am_rs r) Q := by
  unfold f_189 at hq
  unfold p_189 at hp
  try dsimp only at hq hp
  refine am_E.run [10] 2000 (show (am_E S 189 (d + 2) 0 0 10 [.ref 66, .int x0, .int x1, .int x2] [.int x2, .int x1, .int x0, .ref 66, .ref 66] (N, am_ts T, (am_u I 66 0 0), L, am_rs r) Q) from ?_)
  refine am_E.go ⟨fun v h9 => v = some (.int (f_190 x0 x1 x2 (am_u I 66 0 0) L).1) ∧ h9 = (N, am_ts T, (f_190 x0 x1 x2 (am_u I 66 0 0) L).2.1, (f_190 x0 x1 x2 (am_u I 66 0 0) L).2.2, am_rs r), s_190 hp.1 ⟨rfl, rfl⟩, ?_⟩
  replace hp := hp.2
  intro v h9 hv
  obtain ⟨rfl, rfl⟩ := hv
  generalize he_q0 : f_190 x0 x1 x2 (am_u I 66 0 0) L = q0 at hq hp ⊢
  refine am_E.run [13] 2000 (show (am_E S 189 (d + 2) 0 0 13 [.ref 66, .int x0, .int x1, .int x2] [.int q0.1, .ref 66] (N, am_ts T, q0.2.1, q0.2.2, am_rs r) Q) from ?_)
  refine am_E.go ⟨fun v h9 => v = some (.int (f_184 q0.1 q0.2.1 q0.2.2).1) ∧ h9 = (N, am_ts T, (f_184 q0.1 q0.2.1 q0.2.2).2.1, (f_184 q0.1 q0.2.1 q0.2.2).2.2, am_rs r), s_184 hp ⟨rfl, rfl⟩, ?_⟩
  intro v h9 hv
  obtain ⟨rfl, rfl⟩ := hv
  generalize he_q1 : f_184 q0.1 q0.2.1 q0.2.2 = q1 at hq ⊢
  refine am_E.run [] 2000 (show (True ∧ Q (some (.int q1.1)) (N, am_ts T, q1.2.1, q1.2.2, am_rs r)) from ?_)
  exact ⟨trivial, hq⟩
/-- KeyKeepersModel.key(III)I -/
def f_193 (x0 : Int32) (x1 : Int32) (x2 : Int32) (I : Nat → Nat → Int32) (L : Nat → Nat → Int64) : Int32 × (Nat → Nat → Int32) × (Nat → Nat → Int64) :=
  let q0 := f_182 (Int32.toInt64 x2) 0 1;
  if q0 = 0 then
    let q6 := f_179 (-1) (am_u I 66 0 0) L;
    (q6.1, q6.2.1, q6.2.2)
  else
    let q1 := f_192 x0 (am_u I 66 0 0);
    if q1 = 0 then
      let q2 := f_179 (-2) (am_u I 66 0 0) L;
      (q2.1, q2.2.1, q2.2.2)
    else
      let q3 := f_187 x1 (am_u I 66 0 0);
      if q3 = 0 then
        let q5 := f_179 (-2) (am_u I 66 0 0) L;
        (q5.1, q5.2.1, q5.2.2)
      else
        let q4 := f_194 (18 + x0) x1 x2 (am_u (am_u I 66 0 0) 66 8 0) L;
        (q4.1, q4.2.1, q4.2.2)
def p_193 (x0 : Int32) (x1 : Int32) (x2 : Int32) (I : Nat → Nat → Int32) (L : Nat → Nat → Int64) : Prop :=
  (let q0 := f_182 (Int32.toInt64 x2) 0 1;
    if q0 = 0 then
      p_179 (-1) (am_u I 66 0 0) L
    else
      p_192 x0 (am_u I 66 0 0) ∧
      (let q1 := f_192 x0 (am_u I 66 0 0);
        if q1 = 0 then
          p_179 (-2) (am_u I 66 0 0) L
        else
          p_187 x1 (am_u I 66 0 0) ∧
          (let q3 := f_187 x1 (am_u I 66 0 0);
            if q3 = 0 then
              p_179 (-2) (am_u I 66 0 0) L
            else
              p_194 (18 + x0) x1 x2 (am_u (am_u I 66 0 0) 66 8 0) L)))
set_option maxRecDepth 100000 in
theorem s_193 {S : am_S} {d N : Nat} {T : Nat → Nat × Nat} {I : Nat → Nat → Int32} {L : Nat → Nat → Int64} {r : Nat → Nat → Option Nat} {Q : am_Q} {x0 : Int32} {x1 : Int32} {x2 : Int32} (hp : p_193 x0 x1 x2 I L) (hq : Q (some (.int (f_193 x0 x1 x2 I L).1)) (N, am_ts T, (f_193 x0 x1 x2 I L).2.1, (f_193 x0 x1 x2 I L).2.2, am_rs r)) : am_E S 193 (d + 2) 0 0 0 [.ref 66, .int x0, .int x1, .int x2] [] (N, am_ts T, I, L, am_rs r) Q := by
  unfold f_193 at hq
  unfold p_193 at hp
  try dsimp only at hq hp
  refine am_E.run [9] 2000 (show (am_E S 193 (d + 2) 0 0 9 [.ref 66, .int x0, .int x1, .int x2] [.long 1, .long 0, .long (Int32.toInt64 x2)] (N, am_ts T, (am_u I 66 0 0), L, am_rs r) Q) from ?_)
  refine am_E.go ⟨fun v h9 => v = some (.int (f_182 (Int32.toInt64 x2) 0 1)) ∧ h9 = (N, am_ts T, (am_u I 66 0 0), L, am_rs r), s_182 ⟨rfl, rfl⟩, ?_⟩
  intro v h9 hv
  obtain ⟨rfl, rfl⟩ := hv
  generalize he_q0 : f_182 (Int32.toInt64 x2) 0 1 = q0 at hq hp ⊢
  refine am_E.run [17, 23] 2000 (show (if q0 = 0 then (am_E S 193 (d + 2) 0 0 17 [.ref 66, .int x0, .int x1, .int x2] [.int (-1), .ref 66] (N, am_ts T, (am_u I 66 0 0), L, am_rs r) Q) else (am_E S 193 (d + 2) 0 0 23 [.ref 66, .int x0, .int x1, .int x2] [.int x0, .ref 66] (N, am_ts T, (am_u I 66 0 0), L, am_rs r) Q)) from ?_)
  by_cases hc : q0 = 0
  · rw [if_pos hc] at hq hp ⊢
    refine am_E.go ⟨fun v h9 => v = some (.int (f_179 (-1) (am_u I 66 0 0) L).1) ∧ h9 = (N, am_ts T, (f_179 (-1) (am_u I 66 0 0) L).2.1, (f_179 (-1) (am_u I 66 0 0) L).2.2, am_rs r), s_179 hp ⟨rfl, rfl⟩, ?_⟩
    intro v h9 hv
    obtain ⟨rfl, rfl⟩ := hv
    generalize he_q6 : f_179 (-1) (am_u I 66 0 0) L = q6 at hq ⊢
    refine am_E.run [] 2000 (show (True ∧ Q (some (.int q6.1)) (N, am_ts T, q6.2.1, q6.2.2, am_rs r)) from ?_)
    exact ⟨trivial, hq⟩
  · rw [if_neg hc] at hq hp ⊢
    refine am_E.go ⟨fun v h9 => v = some (.int (f_192 x0 (am_u I 66 0 0))) ∧ h9 = (N, am_ts T, (am_u I 66 0 0), L, am_rs r), s_192 hp.1 ⟨rfl, rfl⟩, ?_⟩
    replace hp := hp.2
    intro v h9 hv
    obtain ⟨rfl, rfl⟩ := hv
    generalize he_q1 : f_192 x0 (am_u I 66 0 0) = q1 at hq hp ⊢
    refine am_E.run [31, 40] 2000 (show (if q1 = 0 then (am_E S 193 (d + 2) 0 0 40 [.ref 66, .int x0, .int x1, .int x2] [.int (-2), .ref 66] (N, am_ts T, (am_u I 66 0 0), L, am_rs r) Q) else (am_E S 193 (d + 2) 0 0 31 [.ref 66, .int x0, .int x1, .int x2] [.int x1, .ref 66] (N, am_ts T, (am_u I 66 0 0), L, am_rs r) Q)) from ?_)
    by_cases hc : q1 = 0
    · rw [if_pos hc] at hq hp ⊢
      refine am_E.go ⟨fun v h9 => v = some (.int (f_179 (-2) (am_u I 66 0 0) L).1) ∧ h9 = (N, am_ts T, (f_179 (-2) (am_u I 66 0 0) L).2.1, (f_179 (-2) (am_u I 66 0 0) L).2.2, am_rs r), s_179 hp ⟨rfl, rfl⟩, ?_⟩
      intro v h9 hv
      obtain ⟨rfl, rfl⟩ := hv
      generalize he_q2 : f_179 (-2) (am_u I 66 0 0) L = q2 at hq ⊢
      refine am_E.run [] 2000 (show (True ∧ Q (some (.int q2.1)) (N, am_ts T, q2.2.1, q2.2.2, am_rs r)) from ?_)
      exact ⟨trivial, hq⟩
    · rw [if_neg hc] at hq hp ⊢
      refine am_E.go ⟨fun v h9 => v = some (.int (f_187 x1 (am_u I 66 0 0))) ∧ h9 = (N, am_ts T, (am_u I 66 0 0), L, am_rs r), s_187 hp.1 ⟨rfl, rfl⟩, ?_⟩
      replace hp := hp.2
      intro v h9 hv
      obtain ⟨rfl, rfl⟩ := hv
      generalize he_q3 : f_187 x1 (am_u I 66 0 0) = q3 at hq hp ⊢
      refine am_E.run [40, 56] 2000 (show (if q3 = 0 then (am_E S 193 (d + 2) 0 0 40 [.ref 66, .int x0, .int x1, .int x2] [.int (-2), .ref 66] (N, am_ts T, (am_u I 66 0 0), L, am_rs r) Q) else (am_E S 193 (d + 2) 0 0 56 [.ref 66, .int x0, .int x1, .int x2] [.int x2, .int x1, .int (18 + x0), .ref 66] (N, am_ts T, (am_u (am_u I 66 0 0) 66 8 0), L, am_rs r) Q)) from ?_)
      by_cases hc : q3 = 0
      · rw [if_pos hc] at hq hp ⊢
        refine am_E.go ⟨fun v h9 => v = some (.int (f_179 (-2) (am_u I 66 0 0) L).1) ∧ h9 = (N, am_ts T, (f_179 (-2) (am_u I 66 0 0) L).2.1, (f_179 (-2) (am_u I 66 0 0) L).2.2, am_rs r), s_179 hp ⟨rfl, rfl⟩, ?_⟩
        intro v h9 hv
        obtain ⟨rfl, rfl⟩ := hv
        generalize he_q5 : f_179 (-2) (am_u I 66 0 0) L = q5 at hq ⊢
        refine am_E.run [] 2000 (show (True ∧ Q (some (.int q5.1)) (N, am_ts T, q5.2.1, q5.2.2, am_rs r)) from ?_)
        exact ⟨trivial, hq⟩
      · rw [if_neg hc] at hq hp ⊢
        refine am_E.go ⟨fun v h9 => v = some (.int (f_194 (18 + x0) x1 x2 (am_u (am_u I 66 0 0) 66 8 0) L).1) ∧ h9 = (N, am_ts T, (f_194 (18 + x0) x1 x2 (am_u (am_u I 66 0 0) 66 8 0) L).2.1, (f_194 (18 + x0) x1 x2 (am_u (am_u I 66 0 0) 66 8 0) L).2.2, am_rs r), s_194 hp ⟨rfl, rfl⟩, ?_⟩
        intro v h9 hv
        obtain ⟨rfl, rfl⟩ := hv
        generalize he_q4 : f_194 (18 + x0) x1 x2 (am_u (am_u I 66 0 0) 66 8 0) L = q4 at hq ⊢
        refine am_E.run [] 2000 (show (True ∧ Q (some (.int q4.1)) (N, am_ts T, q4.2.1, q4.2.2, am_rs r)) from ?_)
        exact ⟨trivial, hq⟩
/-- KeyKeepersModel.force(I)I -/
def f_231 (x0 : Int32) (I : Nat → Nat → Int32) (L : Nat → Nat → Int64) : Int32 × (Nat → Nat → Int32) × (Nat → Nat → Int64) :=
  let q0 := f_232 x0 (am_u I 66 0 0);
  if q0 = 0 then
    let q1 := f_179 (-2) (am_u I 66 0 0) L;
    (q1.1, q1.2.1, q1.2.2)
  else
    let q2 := f_188 4 x0 (am_u I 66 0 0) L;
    (q2.1, q2.2.1, q2.2.2)
def p_231 (x0 : Int32) (I : Nat → Nat → Int32) (L : Nat → Nat → Int64) : Prop :=
  (let q0 := f_232 x0 (am_u I 66 0 0);
    if q0 = 0 then
      p_179 (-2) (am_u I 66 0 0) L
    else
      p_188 4 x0 (am_u I 66 0 0) L)
set_option maxRecDepth 100000 in
theorem s_231 {S : am_S} {d N : Nat} {T : Nat → Nat × Nat} {I : Nat → Nat → Int32} {L : Nat → Nat → Int64} {r : Nat → Nat → Option Nat} {Q : am_Q} {x0 : Int32} (hp : p_231 x0 I L) (hq : Q (some (.int (f_231 x0 I L).1)) (N, am_ts T, (f_231 x0 I L).2.1, (f_231 x0 I L).2.2, am_rs r)) : am_E S 231 (d + 2) 0 0 0 [.ref 66, .int x0] [] (N, am_ts T, I, L, am_rs r) Q := by
  unfold f_231 at hq
  unfold p_231 at hp
  try dsimp only at hq hp
  refine am_E.run [7] 2000 (show (am_E S 231 (d + 2) 0 0 7 [.ref 66, .int x0] [.int x0, .ref 66] (N, am_ts T, (am_u I 66 0 0), L, am_rs r) Q) from ?_)
  refine am_E.go ⟨fun v h9 => v = some (.int (f_232 x0 (am_u I 66 0 0))) ∧ h9 = (N, am_ts T, (am_u I 66 0 0), L, am_rs r), s_232 ⟨rfl, rfl⟩, ?_⟩
  intro v h9 hv
  obtain ⟨rfl, rfl⟩ := hv
  generalize he_q0 : f_232 x0 (am_u I 66 0 0) = q0 at hq hp ⊢
  refine am_E.run [16, 25] 2000 (show (if q0 = 0 then (am_E S 231 (d + 2) 0 0 25 [.ref 66, .int x0] [.int (-2), .ref 66] (N, am_ts T, (am_u I 66 0 0), L, am_rs r) Q) else (am_E S 231 (d + 2) 0 0 16 [.ref 66, .int x0] [.int x0, .int 4, .ref 66] (N, am_ts T, (am_u I 66 0 0), L, am_rs r) Q)) from ?_)
  by_cases hc : q0 = 0
  · rw [if_pos hc] at hq hp ⊢
    refine am_E.go ⟨fun v h9 => v = some (.int (f_179 (-2) (am_u I 66 0 0) L).1) ∧ h9 = (N, am_ts T, (f_179 (-2) (am_u I 66 0 0) L).2.1, (f_179 (-2) (am_u I 66 0 0) L).2.2, am_rs r), s_179 hp ⟨rfl, rfl⟩, ?_⟩
    intro v h9 hv
    obtain ⟨rfl, rfl⟩ := hv
    generalize he_q1 : f_179 (-2) (am_u I 66 0 0) L = q1 at hq ⊢
    refine am_E.run [] 2000 (show (True ∧ Q (some (.int q1.1)) (N, am_ts T, q1.2.1, q1.2.2, am_rs r)) from ?_)
    exact ⟨trivial, hq⟩
  · rw [if_neg hc] at hq hp ⊢
    refine am_E.go ⟨fun v h9 => v = some (.int (f_188 4 x0 (am_u I 66 0 0) L).1) ∧ h9 = (N, am_ts T, (f_188 4 x0 (am_u I 66 0 0) L).2.1, (f_188 4 x0 (am_u I 66 0 0) L).2.2, am_rs r), s_188 hp ⟨rfl, rfl⟩, ?_⟩
    intro v h9 hv
    obtain ⟨rfl, rfl⟩ := hv
    generalize he_q2 : f_188 4 x0 (am_u I 66 0 0) L = q2 at hq ⊢
    refine am_E.run [] 2000 (show (True ∧ Q (some (.int q2.1)) (N, am_ts T, q2.2.1, q2.2.2, am_rs r)) from ?_)
    exact ⟨trivial, hq⟩
/-- KeyKeepers.door(II)I -/
def f_11 (x0 : Int32) (x1 : Int32) (I : Nat → Nat → Int32) (L : Nat → Nat → Int64) : Int32 × (Nat → Nat → Int32) × (Nat → Nat → Int64) :=
  let q0 := f_12 x0;
  if q0 = 0 then
    let q1 := f_14 (-1) I L;
    (q1.1, q1.2.1, q1.2.2)
  else
    let q2 := f_12 x1;
    if q2 = 0 then
      let q3 := f_14 (-1) I L;
      (q3.1, q3.2.1, q3.2.2)
    else
      if x0 = x1 then
        let q7 := f_14 (-1) I L;
        (q7.1, q7.2.1, q7.2.2)
      else
        if (I 1 2) < 12 then
          let q4 := f_15 x0 x1 I L;
          let q5 := f_16 q4.1 q4.2.1 q4.2.2;
          (q5.1, q5.2.1, q5.2.2)
        else
          let q6 := f_14 (-5) I L;
          (q6.1, q6.2.1, q6.2.2)
def p_11 (x0 : Int32) (x1 : Int32) (I : Nat → Nat → Int32) (L : Nat → Nat → Int64) : Prop :=
  p_12 x0 ∧
  (let q0 := f_12 x0;
    if q0 = 0 then
      p_14 (-1) I L
    else
      p_12 x1 ∧
      (let q2 := f_12 x1;
        if q2 = 0 then
          p_14 (-1) I L
        else
          if x0 = x1 then
            p_14 (-1) I L
          else
            if (I 1 2) < 12 then
              p_15 x0 x1 I L
            else
              p_14 (-5) I L))
set_option maxRecDepth 100000 in
theorem s_11 {S : am_S} {d N : Nat} {T : Nat → Nat × Nat} {I : Nat → Nat → Int32} {L : Nat → Nat → Int64} {r : Nat → Nat → Option Nat} {Q : am_Q} {x0 : Int32} {x1 : Int32} (hp : p_11 x0 x1 I L) (hq : Q (some (.int (f_11 x0 x1 I L).1)) (N, am_ts T, (f_11 x0 x1 I L).2.1, (f_11 x0 x1 I L).2.2, am_rs r)) : am_E S 11 (d + 2) 0 0 0 [.ref 0, .int x0, .int x1] [] (N, am_ts T, I, L, am_rs r) Q := by
  unfold f_11 at hq
  unfold p_11 at hp
  try dsimp only at hq hp
  refine am_E.run [1] 2000 (show (am_E S 11 (d + 2) 0 0 1 [.ref 0, .int x0, .int x1] [.int x0] (N, am_ts T, I, L, am_rs r) Q) from ?_)
  refine am_E.go ⟨fun v h9 => v = some (.int (f_12 x0)) ∧ h9 = (N, am_ts T, I, L, am_rs r), s_12 hp.1 ⟨rfl, rfl⟩, ?_⟩
  replace hp := hp.2
  intro v h9 hv
  obtain ⟨rfl, rfl⟩ := hv
  generalize he_q0 : f_12 x0 = q0 at hq hp ⊢
  refine am_E.run [8, 21] 2000 (show (if q0 = 0 then (am_E S 11 (d + 2) 0 0 21 [.ref 0, .int x0, .int x1] [.int (-1), .ref 0] (N, am_ts T, I, L, am_rs r) Q) else (am_E S 11 (d + 2) 0 0 8 [.ref 0, .int x0, .int x1] [.int x1] (N, am_ts T, I, L, am_rs r) Q)) from ?_)
  by_cases hc : q0 = 0
  · rw [if_pos hc] at hq hp ⊢
    refine am_E.go ⟨fun v h9 => v = some (.int (f_14 (-1) I L).1) ∧ h9 = (N, am_ts T, (f_14 (-1) I L).2.1, (f_14 (-1) I L).2.2, am_rs r), s_14 hp ⟨rfl, rfl⟩, ?_⟩
    intro v h9 hv
    obtain ⟨rfl, rfl⟩ := hv
    generalize he_q1 : f_14 (-1) I L = q1 at hq ⊢
    refine am_E.run [] 2000 (show (True ∧ Q (some (.int q1.1)) (N, am_ts T, q1.2.1, q1.2.2, am_rs r)) from ?_)
    exact ⟨trivial, hq⟩
  · rw [if_neg hc] at hq hp ⊢
    refine am_E.go ⟨fun v h9 => v = some (.int (f_12 x1)) ∧ h9 = (N, am_ts T, I, L, am_rs r), s_12 hp.1 ⟨rfl, rfl⟩, ?_⟩
    replace hp := hp.2
    intro v h9 hv
    obtain ⟨rfl, rfl⟩ := hv
    generalize he_q2 : f_12 x1 = q2 at hq hp ⊢
    refine am_E.run [21, 40, 51] 2000 (show (if q2 = 0 then (am_E S 11 (d + 2) 0 0 21 [.ref 0, .int x0, .int x1] [.int (-1), .ref 0] (N, am_ts T, I, L, am_rs r) Q) else (if x0 = x1 then (am_E S 11 (d + 2) 0 0 21 [.ref 0, .int x0, .int x1] [.int (-1), .ref 0] (N, am_ts T, I, L, am_rs r) Q) else (if (I 1 2) < 12 then (am_E S 11 (d + 2) 0 0 51 [.ref 0, .int x0, .int x1] [.int x1, .int x0, .ref 1, .ref 0] (N, am_ts T, I, L, am_rs r) Q) else (am_E S 11 (d + 2) 0 0 40 [.ref 0, .int x0, .int x1] [.int (-5), .ref 0] (N, am_ts T, I, L, am_rs r) Q)))) from ?_)
    by_cases hc : q2 = 0
    · rw [if_pos hc] at hq hp ⊢
      refine am_E.go ⟨fun v h9 => v = some (.int (f_14 (-1) I L).1) ∧ h9 = (N, am_ts T, (f_14 (-1) I L).2.1, (f_14 (-1) I L).2.2, am_rs r), s_14 hp ⟨rfl, rfl⟩, ?_⟩
      intro v h9 hv
      obtain ⟨rfl, rfl⟩ := hv
      generalize he_q3 : f_14 (-1) I L = q3 at hq ⊢
      refine am_E.run [] 2000 (show (True ∧ Q (some (.int q3.1)) (N, am_ts T, q3.2.1, q3.2.2, am_rs r)) from ?_)
      exact ⟨trivial, hq⟩
    · rw [if_neg hc] at hq hp ⊢
      by_cases hc : x0 = x1
      · rw [if_pos hc] at hq hp ⊢
        refine am_E.go ⟨fun v h9 => v = some (.int (f_14 (-1) I L).1) ∧ h9 = (N, am_ts T, (f_14 (-1) I L).2.1, (f_14 (-1) I L).2.2, am_rs r), s_14 hp ⟨rfl, rfl⟩, ?_⟩
        intro v h9 hv
        obtain ⟨rfl, rfl⟩ := hv
        generalize he_q7 : f_14 (-1) I L = q7 at hq ⊢
        refine am_E.run [] 2000 (show (True ∧ Q (some (.int q7.1)) (N, am_ts T, q7.2.1, q7.2.2, am_rs r)) from ?_)
        exact ⟨trivial, hq⟩
      · rw [if_neg hc] at hq hp ⊢
        by_cases hc : (I 1 2) < 12
        · rw [if_pos hc] at hq hp ⊢
          refine am_E.go ⟨fun v h9 => v = some (.int (f_15 x0 x1 I L).1) ∧ h9 = (N, am_ts T, (f_15 x0 x1 I L).2.1, (f_15 x0 x1 I L).2.2, am_rs r), s_15 hp ⟨rfl, rfl⟩, ?_⟩
          intro v h9 hv
          obtain ⟨rfl, rfl⟩ := hv
          generalize he_q4 : f_15 x0 x1 I L = q4 at hq ⊢
          refine am_E.run [54] 2000 (show (am_E S 11 (d + 2) 0 0 54 [.ref 0, .int x0, .int x1] [.int q4.1, .ref 0] (N, am_ts T, q4.2.1, q4.2.2, am_rs r) Q) from ?_)
          refine am_E.go ⟨fun v h9 => v = some (.int (f_16 q4.1 q4.2.1 q4.2.2).1) ∧ h9 = (N, am_ts T, (f_16 q4.1 q4.2.1 q4.2.2).2.1, (f_16 q4.1 q4.2.1 q4.2.2).2.2, am_rs r), s_16 ⟨rfl, rfl⟩, ?_⟩
          intro v h9 hv
          obtain ⟨rfl, rfl⟩ := hv
          generalize he_q5 : f_16 q4.1 q4.2.1 q4.2.2 = q5 at hq ⊢
          refine am_E.run [] 2000 (show (True ∧ Q (some (.int q5.1)) (N, am_ts T, q5.2.1, q5.2.2, am_rs r)) from ?_)
          exact ⟨trivial, hq⟩
        · rw [if_neg hc] at hq hp ⊢
          refine am_E.go ⟨fun v h9 => v = some (.int (f_14 (-5) I L).1) ∧ h9 = (N, am_ts T, (f_14 (-5) I L).2.1, (f_14 (-5) I L).2.2, am_rs r), s_14 hp ⟨rfl, rfl⟩, ?_⟩
          intro v h9 hv
          obtain ⟨rfl, rfl⟩ := hv
          generalize he_q6 : f_14 (-5) I L = q6 at hq ⊢
          refine am_E.run [] 2000 (show (True ∧ Q (some (.int q6.1)) (N, am_ts T, q6.2.1, q6.2.2, am_rs r)) from ?_)
          exact ⟨trivial, hq⟩
/-- KeyKeepers.prisoner(III)I -/
def f_22 (x0 : Int32) (x1 : Int32) (x2 : Int32) (I : Nat → Nat → Int32) (L : Nat → Nat → Int64) : Int32 × (Nat → Nat → Int32) × (Nat → Nat → Int64) :=
  let q0 := f_23 x0 x1 x2;
  if q0 = 0 then
    let q5 := f_14 (-1) I L;
    (q5.1, q5.2.1, q5.2.2)
  else
    if (I 1 10) < 8 then
      let q1 := f_24 I L;
      let q2 := f_25 x0 x1 x2 q1.2.1 q1.2.2;
      let q3 := f_16 q2.1 q2.2.1 q2.2.2;
      (q3.1, q3.2.1, q3.2.2)
    else
      let q4 := f_14 (-5) I L;
      (q4.1, q4.2.1, q4.2.2)
def p_22 (x0 : Int32) (x1 : Int32) (x2 : Int32) (I : Nat → Nat → Int32) (L : Nat → Nat → Int64) : Prop :=
  p_23 x0 x1 x2 ∧
  (let q0 := f_23 x0 x1 x2;
    if q0 = 0 then
      p_14 (-1) I L
    else
      if (I 1 10) < 8 then
        (let q1 := f_24 I L;
          p_25 x0 x1 x2 q1.2.1 q1.2.2)
      else
        p_14 (-5) I L)
set_option maxRecDepth 100000 in
theorem s_22 {S : am_S} {d N : Nat} {T : Nat → Nat × Nat} {I : Nat → Nat → Int32} {L : Nat → Nat → Int64} {r : Nat → Nat → Option Nat} {Q : am_Q} {x0 : Int32} {x1 : Int32} {x2 : Int32} (hp : p_22 x0 x1 x2 I L) (hq : Q (some (.int (f_22 x0 x1 x2 I L).1)) (N, am_ts T, (f_22 x0 x1 x2 I L).2.1, (f_22 x0 x1 x2 I L).2.2, am_rs r)) : am_E S 22 (d + 3) 0 0 0 [.ref 0, .int x0, .int x1, .int x2] [] (N, am_ts T, I, L, am_rs r) Q := by
  unfold f_22 at hq
  unfold p_22 at hp
  try dsimp only at hq hp
  refine am_E.run [3] 2000 (show (am_E S 22 (d + 3) 0 0 3 [.ref 0, .int x0, .int x1, .int x2] [.int x2, .int x1, .int x0] (N, am_ts T, I, L, am_rs r) Q) from ?_)
  refine am_E.go ⟨fun v h9 => v = some (.int (f_23 x0 x1 x2)) ∧ h9 = (N, am_ts T, I, L, am_rs r), s_23 hp.1 ⟨rfl, rfl⟩, ?_⟩
  replace hp := hp.2
  intro v h9 hv
  obtain ⟨rfl, rfl⟩ := hv
  generalize he_q0 : f_23 x0 x1 x2 = q0 at hq hp ⊢
  refine am_E.run [11, 30, 38] 2000 (show (if q0 = 0 then (am_E S 22 (d + 3) 0 0 11 [.ref 0, .int x0, .int x1, .int x2] [.int (-1), .ref 0] (N, am_ts T, I, L, am_rs r) Q) else (if (I 1 10) < 8 then (am_E S 22 (d + 3) 0 0 38 [.ref 0, .int x0, .int x1, .int x2] [.ref 29] (N, am_ts T, I, L, am_rs r) Q) else (am_E S 22 (d + 3) 0 0 30 [.ref 0, .int x0, .int x1, .int x2] [.int (-5), .ref 0] (N, am_ts T, I, L, am_rs r) Q))) from ?_)
  by_cases hc : q0 = 0
  · rw [if_pos hc] at hq hp ⊢
    refine am_E.go ⟨fun v h9 => v = some (.int (f_14 (-1) I L).1) ∧ h9 = (N, am_ts T, (f_14 (-1) I L).2.1, (f_14 (-1) I L).2.2, am_rs r), s_14 hp ⟨rfl, rfl⟩, ?_⟩
    intro v h9 hv
    obtain ⟨rfl, rfl⟩ := hv
    generalize he_q5 : f_14 (-1) I L = q5 at hq ⊢
    refine am_E.run [] 2000 (show (True ∧ Q (some (.int q5.1)) (N, am_ts T, q5.2.1, q5.2.2, am_rs r)) from ?_)
    exact ⟨trivial, hq⟩
  · rw [if_neg hc] at hq hp ⊢
    by_cases hc : (I 1 10) < 8
    · rw [if_pos hc] at hq hp ⊢
      refine am_E.go ⟨fun v h9 => v = none ∧ h9 = (N, am_ts T, (f_24 I L).2.1, (f_24 I L).2.2, am_rs r), s_24 ⟨rfl, rfl⟩, ?_⟩
      intro v h9 hv
      obtain ⟨rfl, rfl⟩ := hv
      generalize he_q1 : f_24 I L = q1 at hq hp ⊢
      refine am_E.run [49] 2000 (show (am_E S 22 (d + 3) 0 0 49 [.ref 0, .int x0, .int x1, .int x2] [.int x2, .int x1, .int x0, .ref 1, .ref 0] (N, am_ts T, q1.2.1, q1.2.2, am_rs r) Q) from ?_)
      refine am_E.go ⟨fun v h9 => v = some (.int (f_25 x0 x1 x2 q1.2.1 q1.2.2).1) ∧ h9 = (N, am_ts T, (f_25 x0 x1 x2 q1.2.1 q1.2.2).2.1, (f_25 x0 x1 x2 q1.2.1 q1.2.2).2.2, am_rs r), s_25 hp ⟨rfl, rfl⟩, ?_⟩
      intro v h9 hv
      obtain ⟨rfl, rfl⟩ := hv
      generalize he_q2 : f_25 x0 x1 x2 q1.2.1 q1.2.2 = q2 at hq ⊢
      refine am_E.run [52] 2000 (show (am_E S 22 (d + 3) 0 0 52 [.ref 0, .int x0, .int x1, .int x2] [.int q2.1, .ref 0] (N, am_ts T, q2.2.1, q2.2.2, am_rs r) Q) from ?_)
      refine am_E.go ⟨fun v h9 => v = some (.int (f_16 q2.1 q2.2.1 q2.2.2).1) ∧ h9 = (N, am_ts T, (f_16 q2.1 q2.2.1 q2.2.2).2.1, (f_16 q2.1 q2.2.1 q2.2.2).2.2, am_rs r), s_16 ⟨rfl, rfl⟩, ?_⟩
      intro v h9 hv
      obtain ⟨rfl, rfl⟩ := hv
      generalize he_q3 : f_16 q2.1 q2.2.1 q2.2.2 = q3 at hq ⊢
      refine am_E.run [] 2000 (show (True ∧ Q (some (.int q3.1)) (N, am_ts T, q3.2.1, q3.2.2, am_rs r)) from ?_)
      exact ⟨trivial, hq⟩
    · rw [if_neg hc] at hq hp ⊢
      refine am_E.go ⟨fun v h9 => v = some (.int (f_14 (-5) I L).1) ∧ h9 = (N, am_ts T, (f_14 (-5) I L).2.1, (f_14 (-5) I L).2.2, am_rs r), s_14 hp ⟨rfl, rfl⟩, ?_⟩
      intro v h9 hv
      obtain ⟨rfl, rfl⟩ := hv
      generalize he_q4 : f_14 (-5) I L = q4 at hq ⊢
      refine am_E.run [] 2000 (show (True ∧ Q (some (.int q4.1)) (N, am_ts T, q4.2.1, q4.2.2, am_rs r)) from ?_)
      exact ⟨trivial, hq⟩
