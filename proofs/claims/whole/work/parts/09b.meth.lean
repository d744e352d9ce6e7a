/-- KeyKeepers.within(III)Z -/
def f_13 (x0 : Int32) (x1 : Int32) (x2 : Int32) : Int32 :=
  if x0 < x1 then
    0
  else
    if x2 < x0 then
      0
    else
      1
set_option maxRecDepth 100000 in
theorem s_13 {S : am_S} {d N : Nat} {T : Nat → Nat × Nat} {I : Nat → Nat → Int32} {L : Nat → Nat → Int64} {r : Nat → Nat → Option Nat} {Q : am_Q} {x0 : Int32} {x1 : Int32} {x2 : Int32} (hq : Q (some (.int (f_13 x0 x1 x2))) (N, am_ts T, I, L, am_rs r)) : am_E S 13 (d + 0) 0 0 0 [.int x0, .int x1, .int x2] [] (N, am_ts T, I, L, am_rs r) Q := by
  unfold f_13 at hq
  try dsimp only at hq
  refine am_E.run [] 2000 (show (if x0 < x1 then (((0 : Int32) = 0 ∨ (0 : Int32) = 1) ∧ Q (some (.int 0)) (N, am_ts T, I, L, am_rs r)) else (if x2 < x0 then (((0 : Int32) = 0 ∨ (0 : Int32) = 1) ∧ Q (some (.int 0)) (N, am_ts T, I, L, am_rs r)) else (((1 : Int32) = 0 ∨ (1 : Int32) = 1) ∧ Q (some (.int 1)) (N, am_ts T, I, L, am_rs r)))) from ?_)
  by_cases hc : x0 < x1
  · rw [if_pos hc] at hq ⊢
    exact ⟨Or.inl rfl, hq⟩
  · rw [if_neg hc] at hq ⊢
    by_cases hc : x2 < x0
    · rw [if_pos hc] at hq ⊢
      exact ⟨Or.inl rfl, hq⟩
    · rw [if_neg hc] at hq ⊢
      exact ⟨Or.inr rfl, hq⟩
/-- KeyKeepers.refuse(I)I -/
def f_14 (x0 : Int32) (I : Nat → Nat → Int32) (L : Nat → Nat → Int64) : Int32 × (Nat → Nat → Int32) × (Nat → Nat → Int64) :=
  if x0 ≤ (-5) then
    if ((-x0) - 2) < 0 then
      (x0, (am_u I 0 12 x0), L)
    else
      if (Int32.ofNat 5) ≤ ((-x0) - 2) then
        (x0, (am_u I 0 12 x0), L)
      else
        (x0, (am_u (am_u I 0 12 x0) 65 (Int32.toNatClampNeg ((-x0) - 2)) ((I 65 (Int32.toNatClampNeg ((-x0) - 2))) + 1)), L)
  else
    if ((-x0) - 1) < 0 then
      (x0, (am_u I 0 12 x0), L)
    else
      if (Int32.ofNat 5) ≤ ((-x0) - 1) then
        (x0, (am_u I 0 12 x0), L)
      else
        (x0, (am_u (am_u I 0 12 x0) 65 (Int32.toNatClampNeg ((-x0) - 1)) ((I 65 (Int32.toNatClampNeg ((-x0) - 1))) + 1)), L)
def p_14 (x0 : Int32) (I : Nat → Nat → Int32) (L : Nat → Nat → Int64) : Prop :=
  if x0 ≤ (-5) then
    if ((-x0) - 2) < 0 then
      True
    else
      if (Int32.ofNat 5) ≤ ((-x0) - 2) then
        True
      else
        ¬ (((-x0) - 2) < 0 ∨ 5 ≤ Int32.toNatClampNeg ((-x0) - 2)) ∧
        ¬ (((-x0) - 2) < 0 ∨ 5 ≤ Int32.toNatClampNeg ((-x0) - 2)) ∧
        True
  else
    if ((-x0) - 1) < 0 then
      True
    else
      if (Int32.ofNat 5) ≤ ((-x0) - 1) then
        True
      else
        ¬ (((-x0) - 1) < 0 ∨ 5 ≤ Int32.toNatClampNeg ((-x0) - 1)) ∧
        ¬ (((-x0) - 1) < 0 ∨ 5 ≤ Int32.toNatClampNeg ((-x0) - 1)) ∧
        True
set_option maxRecDepth 100000 in
theorem s_14 {S : am_S} {d N : Nat} {T : Nat → Nat × Nat} {I : Nat → Nat → Int32} {L : Nat → Nat → Int64} {r : Nat → Nat → Option Nat} {Q : am_Q} {x0 : Int32} (hp : p_14 x0 I L) (hq : Q (some (.int (f_14 x0 I L).1)) (N, am_ts T, (f_14 x0 I L).2.1, (f_14 x0 I L).2.2, am_rs r)) : am_E S 14 (d + 0) 0 0 0 [.ref 0, .int x0, am_jk] [] (N, am_ts T, I, L, am_rs r) Q := by
  unfold f_14 at hq
  unfold p_14 at hp
  try dsimp only at hq hp
  refine am_E.run [] 2000 (show (if x0 ≤ (-5) then (if ((-x0) - 2) < 0 then (True ∧ Q (some (.int x0)) (N, am_ts T, (am_u I 0 12 x0), L, am_rs r)) else (if (Int32.ofNat 5) ≤ ((-x0) - 2) then (True ∧ Q (some (.int x0)) (N, am_ts T, (am_u I 0 12 x0), L, am_rs r)) else (if ((-x0) - 2) < 0 ∨ 5 ≤ Int32.toNatClampNeg ((-x0) - 2) then False else (if ((-x0) - 2) < 0 ∨ 5 ≤ Int32.toNatClampNeg ((-x0) - 2) then False else (True ∧ Q (some (.int x0)) (N, am_ts T, (am_u (am_u I 0 12 x0) 65 (Int32.toNatClampNeg ((-x0) - 2)) ((I 65 (Int32.toNatClampNeg ((-x0) - 2))) + 1)), L, am_rs r)))))) else (if ((-x0) - 1) < 0 then (True ∧ Q (some (.int x0)) (N, am_ts T, (am_u I 0 12 x0), L, am_rs r)) else (if (Int32.ofNat 5) ≤ ((-x0) - 1) then (True ∧ Q (some (.int x0)) (N, am_ts T, (am_u I 0 12 x0), L, am_rs r)) else (if ((-x0) - 1) < 0 ∨ 5 ≤ Int32.toNatClampNeg ((-x0) - 1) then False else (if ((-x0) - 1) < 0 ∨ 5 ≤ Int32.toNatClampNeg ((-x0) - 1) then False else (True ∧ Q (some (.int x0)) (N, am_ts T, (am_u (am_u I 0 12 x0) 65 (Int32.toNatClampNeg ((-x0) - 1)) ((I 65 (Int32.toNatClampNeg ((-x0) - 1))) + 1)), L, am_rs r))))))) from ?_)
  by_cases hc : x0 ≤ (-5)
  · rw [if_pos hc] at hq hp ⊢
    by_cases hc : ((-x0) - 2) < 0
    · rw [if_pos hc] at hq hp ⊢
      exact ⟨trivial, hq⟩
    · rw [if_neg hc] at hq hp ⊢
      by_cases hc : (Int32.ofNat 5) ≤ ((-x0) - 2)
      · rw [if_pos hc] at hq hp ⊢
        exact ⟨trivial, hq⟩
      · rw [if_neg hc] at hq hp ⊢
        rw [if_neg hp.1]
        replace hp := hp.2
        rw [if_neg hp.1]
        replace hp := hp.2
        exact ⟨trivial, hq⟩
  · rw [if_neg hc] at hq hp ⊢
    by_cases hc : ((-x0) - 1) < 0
    · rw [if_pos hc] at hq hp ⊢
      exact ⟨trivial, hq⟩
    · rw [if_neg hc] at hq hp ⊢
      by_cases hc : (Int32.ofNat 5) ≤ ((-x0) - 1)
      · rw [if_pos hc] at hq hp ⊢
        exact ⟨trivial, hq⟩
      · rw [if_neg hc] at hq hp ⊢
        rw [if_neg hp.1]
        replace hp := hp.2
        rw [if_neg hp.1]
        replace hp := hp.2
        exact ⟨trivial, hq⟩
/-- KeyKeepers$Prison.addDoor(II)I -/
def f_15 (x0 : Int32) (x1 : Int32) (I : Nat → Nat → Int32) (L : Nat → Nat → Int64) : Int32 × (Nat → Nat → Int32) × (Nat → Nat → Int64) :=
  if (I 1 2) < 12 then
    ((I 1 2), (am_u (am_u (am_u I 2 (Int32.toNatClampNeg (I 1 2)) x0) 3 (Int32.toNatClampNeg (I 1 2)) x1) 1 2 ((I 1 2) + 1)), L)
  else
    ((-1), I, L)
def p_15 (x0 : Int32) (x1 : Int32) (I : Nat → Nat → Int32) (L : Nat → Nat → Int64) : Prop :=
  if (I 1 2) < 12 then
    ¬ ((I 1 2) < 0 ∨ 12 ≤ Int32.toNatClampNeg (I 1 2)) ∧
    ¬ ((I 1 2) < 0 ∨ 12 ≤ Int32.toNatClampNeg (I 1 2)) ∧
    True
  else
    True
set_option maxRecDepth 100000 in
theorem s_15 {S : am_S} {d N : Nat} {T : Nat → Nat × Nat} {I : Nat → Nat → Int32} {L : Nat → Nat → Int64} {r : Nat → Nat → Option Nat} {Q : am_Q} {x0 : Int32} {x1 : Int32} (hp : p_15 x0 x1 I L) (hq : Q (some (.int (f_15 x0 x1 I L).1)) (N, am_ts T, (f_15 x0 x1 I L).2.1, (f_15 x0 x1 I L).2.2, am_rs r)) : am_E S 15 (d + 0) 0 0 0 [.ref 1, .int x0, .int x1] [] (N, am_ts T, I, L, am_rs r) Q := by
  unfold f_15 at hq
  unfold p_15 at hp
  try dsimp only at hq hp
  refine am_E.run [] 2000 (show (if (I 1 2) < 12 then (if (I 1 2) < 0 ∨ 12 ≤ Int32.toNatClampNeg (I 1 2) then False else (if (I 1 2) < 0 ∨ 12 ≤ Int32.toNatClampNeg (I 1 2) then False else (True ∧ Q (some (.int (I 1 2))) (N, am_ts T, (am_u (am_u (am_u I 2 (Int32.toNatClampNeg (I 1 2)) x0) 3 (Int32.toNatClampNeg (I 1 2)) x1) 1 2 ((I 1 2) + 1)), L, am_rs r)))) else (True ∧ Q (some (.int (-1))) (N, am_ts T, I, L, am_rs r))) from ?_)
  by_cases hc : (I 1 2) < 12
  · rw [if_pos hc] at hq hp ⊢
    rw [if_neg hp.1]
    replace hp := hp.2
    rw [if_neg hp.1]
    replace hp := hp.2
    exact ⟨trivial, hq⟩
  · rw [if_neg hc] at hq hp ⊢
    exact ⟨trivial, hq⟩
/-- KeyKeepers.settle(I)I -/
def f_16 (x0 : Int32) (I : Nat → Nat → Int32) (L : Nat → Nat → Int64) : Int32 × (Nat → Nat → Int32) × (Nat → Nat → Int64) :=
  (x0, (am_u (am_u I 0 12 0) 0 10 0), L)
set_option maxRecDepth 100000 in
theorem s_16 {S : am_S} {d N : Nat} {T : Nat → Nat × Nat} {I : Nat → Nat → Int32} {L : Nat → Nat → Int64} {r : Nat → Nat → Option Nat} {Q : am_Q} {x0 : Int32} (hq : Q (some (.int (f_16 x0 I L).1)) (N, am_ts T, (f_16 x0 I L).2.1, (f_16 x0 I L).2.2, am_rs r)) : am_E S 16 (d + 0) 0 0 0 [.ref 0, .int x0] [] (N, am_ts T, I, L, am_rs r) Q := by
  unfold f_16 at hq
  try dsimp only at hq
  refine am_E.run [] 2000 (show (True ∧ Q (some (.int x0)) (N, am_ts T, (am_u (am_u I 0 12 0) 0 10 0), L, am_rs r)) from ?_)
  exact ⟨trivial, hq⟩
/-- KeyKeepers.isBit(I)Z -/
def f_18 (x0 : Int32) : Int32 :=
  if x0 = 0 then
    1
  else
    if x0 = 1 then
      1
    else
      0
set_option maxRecDepth 100000 in
theorem s_18 {S : am_S} {d N : Nat} {T : Nat → Nat × Nat} {I : Nat → Nat → Int32} {L : Nat → Nat → Int64} {r : Nat → Nat → Option Nat} {Q : am_Q} {x0 : Int32} (hq : Q (some (.int (f_18 x0))) (N, am_ts T, I, L, am_rs r)) : am_E S 18 (d + 0) 0 0 0 [.int x0] [] (N, am_ts T, I, L, am_rs r) Q := by
  unfold f_18 at hq
  try dsimp only at hq
  refine am_E.run [] 2000 (show (if x0 = 0 then (((1 : Int32) = 0 ∨ (1 : Int32) = 1) ∧ Q (some (.int 1)) (N, am_ts T, I, L, am_rs r)) else (if x0 = 1 then (((1 : Int32) = 0 ∨ (1 : Int32) = 1) ∧ Q (some (.int 1)) (N, am_ts T, I, L, am_rs r)) else (((0 : Int32) = 0 ∨ (0 : Int32) = 1) ∧ Q (some (.int 0)) (N, am_ts T, I, L, am_rs r)))) from ?_)
  by_cases hc : x0 = 0
  · rw [if_pos hc] at hq ⊢
    exact ⟨Or.inr rfl, hq⟩
  · rw [if_neg hc] at hq ⊢
    by_cases hc : x0 = 1
    · rw [if_pos hc] at hq ⊢
      exact ⟨Or.inr rfl, hq⟩
    · rw [if_neg hc] at hq ⊢
      exact ⟨Or.inl rfl, hq⟩
/-- KeyKeepers$Prison.hasDoor(I)Z -/
def f_19 (x0 : Int32) (I : Nat → Nat → Int32) : Int32 :=
  if x0 < 0 then
    0
  else
    if (I 1 2) ≤ x0 then
      0
    else
      1
set_option maxRecDepth 100000 in
theorem s_19 {S : am_S} {d N : Nat} {T : Nat → Nat × Nat} {I : Nat → Nat → Int32} {L : Nat → Nat → Int64} {r : Nat → Nat → Option Nat} {Q : am_Q} {x0 : Int32} (hq : Q (some (.int (f_19 x0 I))) (N, am_ts T, I, L, am_rs r)) : am_E S 19 (d + 0) 0 0 0 [.ref 1, .int x0] [] (N, am_ts T, I, L, am_rs r) Q := by
  unfold f_19 at hq
  try dsimp only at hq
  refine am_E.run [] 2000 (show (if x0 < 0 then (((0 : Int32) = 0 ∨ (0 : Int32) = 1) ∧ Q (some (.int 0)) (N, am_ts T, I, L, am_rs r)) else (if (I 1 2) ≤ x0 then (((0 : Int32) = 0 ∨ (0 : Int32) = 1) ∧ Q (some (.int 0)) (N, am_ts T, I, L, am_rs r)) else (((1 : Int32) = 0 ∨ (1 : Int32) = 1) ∧ Q (some (.int 1)) (N, am_ts T, I, L, am_rs r)))) from ?_)
  by_cases hc : x0 < 0
  · rw [if_pos hc] at hq ⊢
    exact ⟨Or.inl rfl, hq⟩
  · rw [if_neg hc] at hq ⊢
    by_cases hc : (I 1 2) ≤ x0
    · rw [if_pos hc] at hq ⊢
      exact ⟨Or.inl rfl, hq⟩
    · rw [if_neg hc] at hq ⊢
      exact ⟨Or.inr rfl, hq⟩
/-- KeyKeepers.bitOf(II)I -/
def f_20 (x0 : Int32) (x1 : Int32) : Int32 :=
  ((x0 >>> (x1 &&& 31)) &&& 1)
set_option maxRecDepth 100000 in
theorem s_20 {S : am_S} {d N : Nat} {T : Nat → Nat × Nat} {I : Nat → Nat → Int32} {L : Nat → Nat → Int64} {r : Nat → Nat → Option Nat} {Q : am_Q} {x0 : Int32} {x1 : Int32} (hq : Q (some (.int (f_20 x0 x1))) (N, am_ts T, I, L, am_rs r)) : am_E S 20 (d + 0) 0 0 0 [.int x0, .int x1] [] (N, am_ts T, I, L, am_rs r) Q := by
  unfold f_20 at hq
  try dsimp only at hq
  refine am_E.run [] 2000 (show (True ∧ Q (some (.int ((x0 >>> (x1 &&& 31)) &&& 1))) (N, am_ts T, I, L, am_rs r)) from ?_)
  exact ⟨trivial, hq⟩
/-- KeyKeepers.withBit(III)I -/
def f_21 (x0 : Int32) (x1 : Int32) (x2 : Int32) : Int32 :=
  if x2 = 1 then
    (x0 ||| (1 <<< (x1 &&& 31)))
  else
    (x0 &&& ((1 <<< (x1 &&& 31)) ^^^ (-1)))
set_option maxRecDepth 100000 in
theorem s_21 {S : am_S} {d N : Nat} {T : Nat → Nat × Nat} {I : Nat → Nat → Int32} {L : Nat → Nat → Int64} {r : Nat → Nat → Option Nat} {Q : am_Q} {x0 : Int32} {x1 : Int32} {x2 : Int32} (hq : Q (some (.int (f_21 x0 x1 x2))) (N, am_ts T, I, L, am_rs r)) : am_E S 21 (d + 0) 0 0 0 [.int x0, .int x1, .int x2] [] (N, am_ts T, I, L, am_rs r) Q := by
  unfold f_21 at hq
  try dsimp only at hq
  refine am_E.run [] 2000 (show (if x2 = 1 then (True ∧ Q (some (.int (x0 ||| (1 <<< (x1 &&& 31))))) (N, am_ts T, I, L, am_rs r)) else (True ∧ Q (some (.int (x0 &&& ((1 <<< (x1 &&& 31)) ^^^ (-1))))) (N, am_ts T, I, L, am_rs r))) from ?_)
  by_cases hc : x2 = 1
  · rw [if_pos hc] at hq ⊢
    exact ⟨trivial, hq⟩
  · rw [if_neg hc] at hq ⊢
    exact ⟨trivial, hq⟩
/-- KeyKeepers$Goings.clear()V -/
def f_24 (I : Nat → Nat → Int32) (L : Nat → Nat → Int64) : Int32 × (Nat → Nat → Int32) × (Nat → Nat → Int64) :=
  (0, (am_u I 29 0 0), L)
set_option maxRecDepth 100000 in
theorem s_24 {S : am_S} {d N : Nat} {T : Nat → Nat × Nat} {I : Nat → Nat → Int32} {L : Nat → Nat → Int64} {r : Nat → Nat → Option Nat} {Q : am_Q} (hq : Q (none) (N, am_ts T, (f_24 I L).2.1, (f_24 I L).2.2, am_rs r)) : am_E S 24 (d + 0) 0 0 0 [.ref 29] [] (N, am_ts T, I, L, am_rs r) Q := by
  unfold f_24 at hq
  try dsimp only at hq
  refine am_E.run [] 2000 (show (True ∧ Q (none) (N, am_ts T, (am_u I 29 0 0), L, am_rs r)) from ?_)
  exact ⟨trivial, hq⟩
/-- KeyKeepers$Prison.addPrisoner(III)I -/
def f_25 (x0 : Int32) (x1 : Int32) (x2 : Int32) (I : Nat → Nat → Int32) (L : Nat → Nat → Int64) : Int32 × (Nat → Nat → Int32) × (Nat → Nat → Int64) :=
  if (I 1 10) < 8 then
    let q0 := f_21 (I 1 9) (I 1 10) 0;
    ((I 1 10), (am_u (am_u (am_u (am_u (am_u (am_u (am_u I 4 (Int32.toNatClampNeg (I 1 10)) x0) 5 (Int32.toNatClampNeg (I 1 10)) x1) 6 (Int32.toNatClampNeg (I 1 10)) x2) 7 (Int32.toNatClampNeg (I 1 10)) 0) 8 (Int32.toNatClampNeg (I 1 10)) 0) 1 9 q0) 1 10 ((I 1 10) + 1)), L)
  else
    ((-1), I, L)
def p_25 (x0 : Int32) (x1 : Int32) (x2 : Int32) (I : Nat → Nat → Int32) (L : Nat → Nat → Int64) : Prop :=
  if (I 1 10) < 8 then
    ¬ ((I 1 10) < 0 ∨ 8 ≤ Int32.toNatClampNeg (I 1 10)) ∧
    ¬ ((I 1 10) < 0 ∨ 8 ≤ Int32.toNatClampNeg (I 1 10)) ∧
    ¬ ((I 1 10) < 0 ∨ 8 ≤ Int32.toNatClampNeg (I 1 10)) ∧
    ¬ ((I 1 10) < 0 ∨ 8 ≤ Int32.toNatClampNeg (I 1 10)) ∧
    ¬ ((I 1 10) < 0 ∨ 8 ≤ Int32.toNatClampNeg (I 1 10)) ∧
    True
  else
    True
set_option maxRecDepth 100000 in
theorem s_25 {S : am_S} {d N : Nat} {T : Nat → Nat × Nat} {I : Nat → Nat → Int32} {L : Nat → Nat → Int64} {r : Nat → Nat → Option Nat} {Q : am_Q} {x0 : Int32} {x1 : Int32} {x2 : Int32} (hp : p_25 x0 x1 x2 I L) (hq : Q (some (.int (f_25 x0 x1 x2 I L).1)) (N, am_ts T, (f_25 x0 x1 x2 I L).2.1, (f_25 x0 x1 x2 I L).2.2, am_rs r)) : am_E S 25 (d + 1) 0 0 0 [.ref 1, .int x0, .int x1, .int x2] [] (N, am_ts T, I, L, am_rs r) Q := by
  unfold f_25 at hq
  unfold p_25 at hp
  try dsimp only at hq hp
  refine am_E.run [71] 2000 (show (if (I 1 10) < 8 then (if (I 1 10) < 0 ∨ 8 ≤ Int32.toNatClampNeg (I 1 10) then False else (if (I 1 10) < 0 ∨ 8 ≤ Int32.toNatClampNeg (I 1 10) then False else (if (I 1 10) < 0 ∨ 8 ≤ Int32.toNatClampNeg (I 1 10) then False else (if (I 1 10) < 0 ∨ 8 ≤ Int32.toNatClampNeg (I 1 10) then False else (if (I 1 10) < 0 ∨ 8 ≤ Int32.toNatClampNeg (I 1 10) then False else (am_E S 25 (d + 1) 0 0 71 [.ref 1, .int x0, .int x1, .int x2] [.int 0, .int (I 1 10), .int (I 1 9), .ref 1] (N, am_ts T, (am_u (am_u (am_u (am_u (am_u I 4 (Int32.toNatClampNeg (I 1 10)) x0) 5 (Int32.toNatClampNeg (I 1 10)) x1) 6 (Int32.toNatClampNeg (I 1 10)) x2) 7 (Int32.toNatClampNeg (I 1 10)) 0) 8 (Int32.toNatClampNeg (I 1 10)) 0), L, am_rs r) Q)))))) else (True ∧ Q (some (.int (-1))) (N, am_ts T, I, L, am_rs r))) from ?_)
  by_cases hc : (I 1 10) < 8
  · rw [if_pos hc] at hq hp ⊢
    rw [if_neg hp.1]
    replace hp := hp.2
    rw [if_neg hp.1]
    replace hp := hp.2
    rw [if_neg hp.1]
    replace hp := hp.2
    rw [if_neg hp.1]
    replace hp := hp.2
    rw [if_neg hp.1]
    replace hp := hp.2
    refine am_E.go ⟨fun v h9 => v = some (.int (f_21 (I 1 9) (I 1 10) 0)) ∧ h9 = (N, am_ts T, (am_u (am_u (am_u (am_u (am_u I 4 (Int32.toNatClampNeg (I 1 10)) x0) 5 (Int32.toNatClampNeg (I 1 10)) x1) 6 (Int32.toNatClampNeg (I 1 10)) x2) 7 (Int32.toNatClampNeg (I 1 10)) 0) 8 (Int32.toNatClampNeg (I 1 10)) 0), L, am_rs r), s_21 ⟨rfl, rfl⟩, ?_⟩
    intro v h9 hv
    obtain ⟨rfl, rfl⟩ := hv
    generalize he_q0 : f_21 (I 1 9) (I 1 10) 0 = q0 at hq ⊢
    refine am_E.run [] 2000 (show (True ∧ Q (some (.int (I 1 10))) (N, am_ts T, (am_u (am_u (am_u (am_u (am_u (am_u (am_u I 4 (Int32.toNatClampNeg (I 1 10)) x0) 5 (Int32.toNatClampNeg (I 1 10)) x1) 6 (Int32.toNatClampNeg (I 1 10)) x2) 7 (Int32.toNatClampNeg (I 1 10)) 0) 8 (Int32.toNatClampNeg (I 1 10)) 0) 1 9 q0) 1 10 ((I 1 10) + 1)), L, am_rs r)) from ?_)
    exact ⟨trivial, hq⟩
  · rw [if_neg hc] at hq hp ⊢
    exact ⟨trivial, hq⟩
/-- KeyKeepers$Prison.hasPrisoner(I)Z -/
def f_27 (x0 : Int32) (I : Nat → Nat → Int32) : Int32 :=
  if x0 < 0 then
    0
  else
    if (I 1 10) ≤ x0 then
      0
    else
      1
set_option maxRecDepth 100000 in
theorem s_27 {S : am_S} {d N : Nat} {T : Nat → Nat × Nat} {I : Nat → Nat → Int32} {L : Nat → Nat → Int64} {r : Nat → Nat → Option Nat} {Q : am_Q} {x0 : Int32} (hq : Q (some (.int (f_27 x0 I))) (N, am_ts T, I, L, am_rs r)) : am_E S 27 (d + 0) 0 0 0 [.ref 1, .int x0] [] (N, am_ts T, I, L, am_rs r) Q := by
  unfold f_27 at hq
  try dsimp only at hq
  refine am_E.run [] 2000 (show (if x0 < 0 then (((0 : Int32) = 0 ∨ (0 : Int32) = 1) ∧ Q (some (.int 0)) (N, am_ts T, I, L, am_rs r)) else (if (I 1 10) ≤ x0 then (((0 : Int32) = 0 ∨ (0 : Int32) = 1) ∧ Q (some (.int 0)) (N, am_ts T, I, L, am_rs r)) else (((1 : Int32) = 0 ∨ (1 : Int32) = 1) ∧ Q (some (.int 1)) (N, am_ts T, I, L, am_rs r)))) from ?_)
  by_cases hc : x0 < 0
  · rw [if_pos hc] at hq ⊢
    exact ⟨Or.inl rfl, hq⟩
  · rw [if_neg hc] at hq ⊢
    by_cases hc : (I 1 10) ≤ x0
    · rw [if_pos hc] at hq ⊢
      exact ⟨Or.inl rfl, hq⟩
    · rw [if_neg hc] at hq ⊢
      exact ⟨Or.inr rfl, hq⟩
/-- KeyKeepers.key(III)I -/
def f_28 (x0 : Int32) (x1 : Int32) (x2 : Int32) (I : Nat → Nat → Int32) (L : Nat → Nat → Int64) : Int32 × (Nat → Nat → Int32) × (Nat → Nat → Int64) :=
  let q0 := f_18 x2;
  if q0 = 0 then
    let q9 := f_14 (-1) I L;
    (q9.1, q9.2.1, q9.2.2)
  else
    let q1 := f_27 x0 I;
    if q1 = 0 then
      let q2 := f_14 (-2) I L;
      (q2.1, q2.2.1, q2.2.2)
    else
      let q3 := f_19 x1 I;
      if q3 = 0 then
        let q8 := f_14 (-2) I L;
        (q8.1, q8.2.1, q8.2.2)
      else
        let q4 := f_20 (I 7 (Int32.toNatClampNeg x0)) x1;
        let q5 := f_21 (I 7 (Int32.toNatClampNeg x0)) x1 x2;
        let q6 := f_24 (am_u I 7 (Int32.toNatClampNeg x0) q5) L;
        let q7 := f_16 q4 q6.2.1 q6.2.2;
        (q7.1, q7.2.1, q7.2.2)
def p_28 (x0 : Int32) (x1 : Int32) (x2 : Int32) (I : Nat → Nat → Int32) (L : Nat → Nat → Int64) : Prop :=
  (let q0 := f_18 x2;
    if q0 = 0 then
      p_14 (-1) I L ∧
      (let q9 := f_14 (-1) I L;
        True)
    else
      (let q1 := f_27 x0 I;
        if q1 = 0 then
          p_14 (-2) I L ∧
          (let q2 := f_14 (-2) I L;
            True)
        else
          (let q3 := f_19 x1 I;
            if q3 = 0 then
              p_14 (-2) I L ∧
              (let q8 := f_14 (-2) I L;
                True)
            else
              ¬ (x0 < 0 ∨ 8 ≤ Int32.toNatClampNeg x0) ∧
              (let q4 := f_20 (I 7 (Int32.toNatClampNeg x0)) x1;
                ¬ (x0 < 0 ∨ 8 ≤ Int32.toNatClampNeg x0) ∧
                (let q5 := f_21 (I 7 (Int32.toNatClampNeg x0)) x1 x2;
                  ¬ (x0 < 0 ∨ 8 ≤ Int32.toNatClampNeg x0) ∧
                  True)))))
set_option maxRecDepth 100000 in
theorem s_28 {S : am_S} {d N : Nat} {T : Nat → Nat × Nat} {I : Nat → Nat → Int32} {L : Nat → Nat → Int64} {r : Nat → Nat → Option Nat} {Q : am_Q} {x0 : Int32} {x1 : Int32} {x2 : Int32} (hp : p_28 x0 x1 x2 I L) (hq : Q (some (.int (f_28 x0 x1 x2 I L).1)) (N, am_ts T, (f_28 x0 x1 x2 I L).2.1, (f_28 x0 x1 x2 I L).2.2, am_rs r)) : am_E S 28 (d + 1) 0 0 0 [.ref 0, .int x0, .int x1, .int x2, am_jk] [] (N, am_ts T, I, L, am_rs r) Q := by
  unfold f_28 at hq
  unfold p_28 at hp
  try dsimp only at hq hp
  refine am_E.run [1] 2000 (show (am_E S 28 (d + 1) 0 0 1 [.ref 0, .int x0, .int x1, .int x2, am_jk] [.int x2] (N, am_ts T, I, L, am_rs r) Q) from ?_)
  refine am_E.go ⟨fun v h9 => v = some (.int (f_18 x2)) ∧ h9 = (N, am_ts T, I, L, am_rs r), s_18 ⟨rfl, rfl⟩, ?_⟩
  intro v h9 hv
  obtain ⟨rfl, rfl⟩ := hv
  generalize he_q0 : f_18 x2 = q0 at hq hp ⊢
  refine am_E.run [9, 18] 2000 (show (if q0 = 0 then (am_E S 28 (d + 1) 0 0 9 [.ref 0, .int x0, .int x1, .int x2, am_jk] [.int (-1), .ref 0] (N, am_ts T, I, L, am_rs r) Q) else (am_E S 28 (d + 1) 0 0 18 [.ref 0, .int x0, .int x1, .int x2, am_jk] [.int x0, .ref 1] (N, am_ts T, I, L, am_rs r) Q)) from ?_)
  by_cases hc : q0 = 0
  · rw [if_pos hc] at hq hp ⊢
    refine am_E.go ⟨fun v h9 => v = some (.int (f_14 (-1) I L).1) ∧ h9 = (N, am_ts T, (f_14 (-1) I L).2.1, (f_14 (-1) I L).2.2, am_rs r), s_14 hp.1 ⟨rfl, rfl⟩, ?_⟩
    replace hp := hp.2
    intro v h9 hv
    obtain ⟨rfl, rfl⟩ := hv
    generalize he_q9 : f_14 (-1) I L = q9 at hq ⊢
    refine am_E.run [] 2000 (show (True ∧ Q (some (.int q9.1)) (N, am_ts T, q9.2.1, q9.2.2, am_rs r)) from ?_)
    exact ⟨trivial, hq⟩
  · rw [if_neg hc] at hq hp ⊢
    refine am_E.go ⟨fun v h9 => v = some (.int (f_27 x0 I)) ∧ h9 = (N, am_ts T, I, L, am_rs r), s_27 ⟨rfl, rfl⟩, ?_⟩
    intro v h9 hv
    obtain ⟨rfl, rfl⟩ := hv
    generalize he_q1 : f_27 x0 I = q1 at hq hp ⊢
    refine am_E.run [29, 38] 2000 (show (if q1 = 0 then (am_E S 28 (d + 1) 0 0 38 [.ref 0, .int x0, .int x1, .int x2, am_jk] [.int (-2), .ref 0] (N, am_ts T, I, L, am_rs r) Q) else (am_E S 28 (d + 1) 0 0 29 [.ref 0, .int x0, .int x1, .int x2, am_jk] [.int x1, .ref 1] (N, am_ts T, I, L, am_rs r) Q)) from ?_)
    by_cases hc : q1 = 0
    · rw [if_pos hc] at hq hp ⊢
      refine am_E.go ⟨fun v h9 => v = some (.int (f_14 (-2) I L).1) ∧ h9 = (N, am_ts T, (f_14 (-2) I L).2.1, (f_14 (-2) I L).2.2, am_rs r), s_14 hp.1 ⟨rfl, rfl⟩, ?_⟩
      replace hp := hp.2
      intro v h9 hv
      obtain ⟨rfl, rfl⟩ := hv
      generalize he_q2 : f_14 (-2) I L = q2 at hq ⊢
      refine am_E.run [] 2000 (show (True ∧ Q (some (.int q2.1)) (N, am_ts T, q2.2.1, q2.2.2, am_rs r)) from ?_)
      exact ⟨trivial, hq⟩
    · rw [if_neg hc] at hq hp ⊢
      refine am_E.go ⟨fun v h9 => v = some (.int (f_19 x1 I)) ∧ h9 = (N, am_ts T, I, L, am_rs r), s_19 ⟨rfl, rfl⟩, ?_⟩
      intro v h9 hv
      obtain ⟨rfl, rfl⟩ := hv
      generalize he_q3 : f_19 x1 I = q3 at hq hp ⊢
      refine am_E.run [38, 52] 2000 (show (if q3 = 0 then (am_E S 28 (d + 1) 0 0 38 [.ref 0, .int x0, .int x1, .int x2, am_jk] [.int (-2), .ref 0] (N, am_ts T, I, L, am_rs r) Q) else (if x0 < 0 ∨ 8 ≤ Int32.toNatClampNeg x0 then False else (am_E S 28 (d + 1) 0 0 52 [.ref 0, .int x0, .int x1, .int x2, am_jk] [.int x1, .int (I 7 (Int32.toNatClampNeg x0))] (N, am_ts T, I, L, am_rs r) Q))) from ?_)
      by_cases hc : q3 = 0
      · rw [if_pos hc] at hq hp ⊢
        refine am_E.go ⟨fun v h9 => v = some (.int (f_14 (-2) I L).1) ∧ h9 = (N, am_ts T, (f_14 (-2) I L).2.1, (f_14 (-2) I L).2.2, am_rs r), s_14 hp.1 ⟨rfl, rfl⟩, ?_⟩
        replace hp := hp.2
        intro v h9 hv
        obtain ⟨rfl, rfl⟩ := hv
        generalize he_q8 : f_14 (-2) I L = q8 at hq ⊢
        refine am_E.run [] 2000 (show (True ∧ Q (some (.int q8.1)) (N, am_ts T, q8.2.1, q8.2.2, am_rs r)) from ?_)
        exact ⟨trivial, hq⟩
      · rw [if_neg hc] at hq hp ⊢
        rw [if_neg hp.1]
        replace hp := hp.2
        refine am_E.go ⟨fun v h9 => v = some (.int (f_20 (I 7 (Int32.toNatClampNeg x0)) x1)) ∧ h9 = (N, am_ts T, I, L, am_rs r), s_20 ⟨rfl, rfl⟩, ?_⟩
        intro v h9 hv
        obtain ⟨rfl, rfl⟩ := hv
        generalize he_q4 : f_20 (I 7 (Int32.toNatClampNeg x0)) x1 = q4 at hq hp ⊢
        refine am_E.run [76] 2000 (show (if x0 < 0 ∨ 8 ≤ Int32.toNatClampNeg x0 then False else (am_E S 28 (d + 1) 0 0 76 [.ref 0, .int x0, .int x1, .int x2, .int q4] [.int x2, .int x1, .int (I 7 (Int32.toNatClampNeg x0)), .int x0, .ref 7] (N, am_ts T, I, L, am_rs r) Q)) from ?_)
        rw [if_neg hp.1]
        replace hp := hp.2
        refine am_E.go ⟨fun v h9 => v = some (.int (f_21 (I 7 (Int32.toNatClampNeg x0)) x1 x2)) ∧ h9 = (N, am_ts T, I, L, am_rs r), s_21 ⟨rfl, rfl⟩, ?_⟩
        intro v h9 hv
        obtain ⟨rfl, rfl⟩ := hv
        generalize he_q5 : f_21 (I 7 (Int32.toNatClampNeg x0)) x1 x2 = q5 at hq hp ⊢
        refine am_E.run [84] 2000 (show (if x0 < 0 ∨ 8 ≤ Int32.toNatClampNeg x0 then False else (am_E S 28 (d + 1) 0 0 84 [.ref 0, .int x0, .int x1, .int x2, .int q4] [.ref 29] (N, am_ts T, (am_u I 7 (Int32.toNatClampNeg x0) q5), L, am_rs r) Q)) from ?_)
        rw [if_neg hp.1]
        replace hp := hp.2
        refine am_E.go ⟨fun v h9 => v = none ∧ h9 = (N, am_ts T, (f_24 (am_u I 7 (Int32.toNatClampNeg x0) q5) L).2.1, (f_24 (am_u I 7 (Int32.toNatClampNeg x0) q5) L).2.2, am_rs r), s_24 ⟨rfl, rfl⟩, ?_⟩
        intro v h9 hv
        obtain ⟨rfl, rfl⟩ := hv
        generalize he_q6 : f_24 (am_u I 7 (Int32.toNatClampNeg x0) q5) L = q6 at hq ⊢
        refine am_E.run [90] 2000 (show (am_E S 28 (d + 1) 0 0 90 [.ref 0, .int x0, .int x1, .int x2, .int q4] [.int q4, .ref 0] (N, am_ts T, q6.2.1, q6.2.2, am_rs r) Q) from ?_)
        refine am_E.go ⟨fun v h9 => v = some (.int (f_16 q4 q6.2.1 q6.2.2).1) ∧ h9 = (N, am_ts T, (f_16 q4 q6.2.1 q6.2.2).2.1, (f_16 q4 q6.2.1 q6.2.2).2.2, am_rs r), s_16 ⟨rfl, rfl⟩, ?_⟩
        intro v h9 hv
        obtain ⟨rfl, rfl⟩ := hv
        generalize he_q7 : f_16 q4 q6.2.1 q6.2.2 = q7 at hq ⊢
        refine am_E.run [] 2000 (show (True ∧ Q (some (.int q7.1)) (N, am_ts T, q7.2.1, q7.2.2, am_rs r)) from ?_)
        exact ⟨trivial, hq⟩
/-- KeyKeepers.trust(III)I -/
def f_29 (x0 : Int32) (x1 : Int32) (x2 : Int32) (I : Nat → Nat → Int32) (L : Nat → Nat → Int64) : Int32 × (Nat → Nat → Int32) × (Nat → Nat → Int64) :=
  let q0 := f_18 x2;
  if q0 = 0 then
    let q1 := f_14 (-1) I L;
    (q1.1, q1.2.1, q1.2.2)
  else
    if x0 = x1 then
      let q9 := f_14 (-1) I L;
      (q9.1, q9.2.1, q9.2.2)
    else
      let q2 := f_27 x0 I;
      if q2 = 0 then
        let q3 := f_14 (-2) I L;
        (q3.1, q3.2.1, q3.2.2)
      else
        let q4 := f_27 x1 I;
        if q4 = 0 then
          let q8 := f_14 (-2) I L;
          (q8.1, q8.2.1, q8.2.2)
        else
          let q5 := f_20 (I 8 (Int32.toNatClampNeg x0)) x1;
          let q6 := f_21 (I 8 (Int32.toNatClampNeg x0)) x1 x2;
          let q7 := f_16 q5 (am_u I 8 (Int32.toNatClampNeg x0) q6) L;
          (q7.1, q7.2.1, q7.2.2)
def p_29 (x0 : Int32) (x1 : Int32) (x2 : Int32) (I : Nat → Nat → Int32) (L : Nat → Nat → Int64) : Prop :=
  (let q0 := f_18 x2;
    if q0 = 0 then
      p_14 (-1) I L ∧
      (let q1 := f_14 (-1) I L;
        True)
    else
      if x0 = x1 then
        p_14 (-1) I L ∧
        (let q9 := f_14 (-1) I L;
          True)
      else
        (let q2 := f_27 x0 I;
          if q2 = 0 then
            p_14 (-2) I L ∧
            (let q3 := f_14 (-2) I L;
              True)
          else
            (let q4 := f_27 x1 I;
              if q4 = 0 then
                p_14 (-2) I L ∧
                (let q8 := f_14 (-2) I L;
                  True)
              else
                ¬ (x0 < 0 ∨ 8 ≤ Int32.toNatClampNeg x0) ∧
                (let q5 := f_20 (I 8 (Int32.toNatClampNeg x0)) x1;
                  ¬ (x0 < 0 ∨ 8 ≤ Int32.toNatClampNeg x0) ∧
                  (let q6 := f_21 (I 8 (Int32.toNatClampNeg x0)) x1 x2;
                    ¬ (x0 < 0 ∨ 8 ≤ Int32.toNatClampNeg x0) ∧
                    True)))))
set_option maxRecDepth 100000 in
theorem s_29 {S : am_S} {d N : Nat} {T : Nat → Nat × Nat} {I : Nat → Nat → Int32} {L : Nat → Nat → Int64} {r : Nat → Nat → Option Nat} {Q : am_Q} {x0 : Int32} {x1 : Int32} {x2 : Int32} (hp : p_29 x0 x1 x2 I L) (hq : Q (some (.int (f_29 x0 x1 x2 I L).1)) (N, am_ts T, (f_29 x0 x1 x2 I L).2.1, (f_29 x0 x1 x2 I L).2.2, am_rs r)) : am_E S 29 (d + 1) 0 0 0 [.ref 0, .int x0, .int x1, .int x2, am_jk] [] (N, am_ts T, I, L, am_rs r) Q := by
  unfold f_29 at hq
  unfold p_29 at hp
  try dsimp only at hq hp
  refine am_E.run [1] 2000 (show (am_E S 29 (d + 1) 0 0 1 [.ref 0, .int x0, .int x1, .int x2, am_jk] [.int x2] (N, am_ts T, I, L, am_rs r) Q) from ?_)
  refine am_E.go ⟨fun v h9 => v = some (.int (f_18 x2)) ∧ h9 = (N, am_ts T, I, L, am_rs r), s_18 ⟨rfl, rfl⟩, ?_⟩
  intro v h9 hv
  obtain ⟨rfl, rfl⟩ := hv
  generalize he_q0 : f_18 x2 = q0 at hq hp ⊢
  refine am_E.run [14, 23] 2000 (show (if q0 = 0 then (am_E S 29 (d + 1) 0 0 14 [.ref 0, .int x0, .int x1, .int x2, am_jk] [.int (-1), .ref 0] (N, am_ts T, I, L, am_rs r) Q) else (if x0 = x1 then (am_E S 29 (d + 1) 0 0 14 [.ref 0, .int x0, .int x1, .int x2, am_jk] [.int (-1), .ref 0] (N, am_ts T, I, L, am_rs r) Q) else (am_E S 29 (d + 1) 0 0 23 [.ref 0, .int x0, .int x1, .int x2, am_jk] [.int x0, .ref 1] (N, am_ts T, I, L, am_rs r) Q))) from ?_)
  by_cases hc : q0 = 0
  · rw [if_pos hc] at hq hp ⊢
    refine am_E.go ⟨fun v h9 => v = some (.int (f_14 (-1) I L).1) ∧ h9 = (N, am_ts T, (f_14 (-1) I L).2.1, (f_14 (-1) I L).2.2, am_rs r), s_14 hp.1 ⟨rfl, rfl⟩, ?_⟩
    replace hp := hp.2
    intro v h9 hv
    obtain ⟨rfl, rfl⟩ := hv
    generalize he_q1 : f_14 (-1) I L = q1 at hq ⊢
    refine am_E.run [] 2000 (show (True ∧ Q (some (.int q1.1)) (N, am_ts T, q1.2.1, q1.2.2, am_rs r)) from ?_)
    exact ⟨trivial, hq⟩
  · rw [if_neg hc] at hq hp ⊢
    by_cases hc : x0 = x1
    · rw [if_pos hc] at hq hp ⊢
      refine am_E.go ⟨fun v h9 => v = some (.int (f_14 (-1) I L).1) ∧ h9 = (N, am_ts T, (f_14 (-1) I L).2.1, (f_14 (-1) I L).2.2, am_rs r), s_14 hp.1 ⟨rfl, rfl⟩, ?_⟩
      replace hp := hp.2
      intro v h9 hv
      obtain ⟨rfl, rfl⟩ := hv
      generalize he_q9 : f_14 (-1) I L = q9 at hq ⊢
      refine am_E.run [] 2000 (show (True ∧ Q (some (.int q9.1)) (N, am_ts T, q9.2.1, q9.2.2, am_rs r)) from ?_)
      exact ⟨trivial, hq⟩
    · rw [if_neg hc] at hq hp ⊢
      refine am_E.go ⟨fun v h9 => v = some (.int (f_27 x0 I)) ∧ h9 = (N, am_ts T, I, L, am_rs r), s_27 ⟨rfl, rfl⟩, ?_⟩
      intro v h9 hv
      obtain ⟨rfl, rfl⟩ := hv
      generalize he_q2 : f_27 x0 I = q2 at hq hp ⊢
      refine am_E.run [34, 43] 2000 (show (if q2 = 0 then (am_E S 29 (d + 1) 0 0 43 [.ref 0, .int x0, .int x1, .int x2, am_jk] [.int (-2), .ref 0] (N, am_ts T, I, L, am_rs r) Q) else (am_E S 29 (d + 1) 0 0 34 [.ref 0, .int x0, .int x1, .int x2, am_jk] [.int x1, .ref 1] (N, am_ts T, I, L, am_rs r) Q)) from ?_)
      by_cases hc : q2 = 0
      · rw [if_pos hc] at hq hp ⊢
        refine am_E.go ⟨fun v h9 => v = some (.int (f_14 (-2) I L).1) ∧ h9 = (N, am_ts T, (f_14 (-2) I L).2.1, (f_14 (-2) I L).2.2, am_rs r), s_14 hp.1 ⟨rfl, rfl⟩, ?_⟩
        replace hp := hp.2
        intro v h9 hv
        obtain ⟨rfl, rfl⟩ := hv
        generalize he_q3 : f_14 (-2) I L = q3 at hq ⊢
        refine am_E.run [] 2000 (show (True ∧ Q (some (.int q3.1)) (N, am_ts T, q3.2.1, q3.2.2, am_rs r)) from ?_)
        exact ⟨trivial, hq⟩
      · rw [if_neg hc] at hq hp ⊢
        refine am_E.go ⟨fun v h9 => v = some (.int (f_27 x1 I)) ∧ h9 = (N, am_ts T, I, L, am_rs r), s_27 ⟨rfl, rfl⟩, ?_⟩
        intro v h9 hv
        obtain ⟨rfl, rfl⟩ := hv
        generalize he_q4 : f_27 x1 I = q4 at hq hp ⊢
        refine am_E.run [43, 57] 2000 (show (if q4 = 0 then (am_E S 29 (d + 1) 0 0 43 [.ref 0, .int x0, .int x1, .int x2, am_jk] [.int (-2), .ref 0] (N, am_ts T, I, L, am_rs r) Q) else (if x0 < 0 ∨ 8 ≤ Int32.toNatClampNeg x0 then False else (am_E S 29 (d + 1) 0 0 57 [.ref 0, .int x0, .int x1, .int x2, am_jk] [.int x1, .int (I 8 (Int32.toNatClampNeg x0))] (N, am_ts T, I, L, am_rs r) Q))) from ?_)
        by_cases hc : q4 = 0
        · rw [if_pos hc] at hq hp ⊢
          refine am_E.go ⟨fun v h9 => v = some (.int (f_14 (-2) I L).1) ∧ h9 = (N, am_ts T, (f_14 (-2) I L).2.1, (f_14 (-2) I L).2.2, am_rs r), s_14 hp.1 ⟨rfl, rfl⟩, ?_⟩
          replace hp := hp.2
          intro v h9 hv
          obtain ⟨rfl, rfl⟩ := hv
          generalize he_q8 : f_14 (-2) I L = q8 at hq ⊢
          refine am_E.run [] 2000 (show (True ∧ Q (some (.int q8.1)) (N, am_ts T, q8.2.1, q8.2.2, am_rs r)) from ?_)
          exact ⟨trivial, hq⟩
        · rw [if_neg hc] at hq hp ⊢
          rw [if_neg hp.1]
          replace hp := hp.2
          refine am_E.go ⟨fun v h9 => v = some (.int (f_20 (I 8 (Int32.toNatClampNeg x0)) x1)) ∧ h9 = (N, am_ts T, I, L, am_rs r), s_20 ⟨rfl, rfl⟩, ?_⟩
          intro v h9 hv
          obtain ⟨rfl, rfl⟩ := hv
          generalize he_q5 : f_20 (I 8 (Int32.toNatClampNeg x0)) x1 = q5 at hq hp ⊢
          refine am_E.run [81] 2000 (show (if x0 < 0 ∨ 8 ≤ Int32.toNatClampNeg x0 then False else (am_E S 29 (d + 1) 0 0 81 [.ref 0, .int x0, .int x1, .int x2, .int q5] [.int x2, .int x1, .int (I 8 (Int32.toNatClampNeg x0)), .int x0, .ref 8] (N, am_ts T, I, L, am_rs r) Q)) from ?_)
          rw [if_neg hp.1]
          replace hp := hp.2
          refine am_E.go ⟨fun v h9 => v = some (.int (f_21 (I 8 (Int32.toNatClampNeg x0)) x1 x2)) ∧ h9 = (N, am_ts T, I, L, am_rs r), s_21 ⟨rfl, rfl⟩, ?_⟩
          intro v h9 hv
          obtain ⟨rfl, rfl⟩ := hv
          generalize he_q6 : f_21 (I 8 (Int32.toNatClampNeg x0)) x1 x2 = q6 at hq hp ⊢
          refine am_E.run [88] 2000 (show (if x0 < 0 ∨ 8 ≤ Int32.toNatClampNeg x0 then False else (am_E S 29 (d + 1) 0 0 88 [.ref 0, .int x0, .int x1, .int x2, .int q5] [.int q5, .ref 0] (N, am_ts T, (am_u I 8 (Int32.toNatClampNeg x0) q6), L, am_rs r) Q)) from ?_)
          rw [if_neg hp.1]
          replace hp := hp.2
          refine am_E.go ⟨fun v h9 => v = some (.int (f_16 q5 (am_u I 8 (Int32.toNatClampNeg x0) q6) L).1) ∧ h9 = (N, am_ts T, (f_16 q5 (am_u I 8 (Int32.toNatClampNeg x0) q6) L).2.1, (f_16 q5 (am_u I 8 (Int32.toNatClampNeg x0) q6) L).2.2, am_rs r), s_16 ⟨rfl, rfl⟩, ?_⟩
          intro v h9 hv
          obtain ⟨rfl, rfl⟩ := hv
          generalize he_q7 : f_16 q5 (am_u I 8 (Int32.toNatClampNeg x0) q6) L = q7 at hq ⊢
          refine am_E.run [] 2000 (show (True ∧ Q (some (.int q7.1)) (N, am_ts T, q7.2.1, q7.2.2, am_rs r)) from ?_)
          exact ⟨trivial, hq⟩
/-- KeyKeepers.vote(II)I -/
def f_30 (x0 : Int32) (x1 : Int32) (I : Nat → Nat → Int32) (L : Nat → Nat → Int64) : Int32 × (Nat → Nat → Int32) × (Nat → Nat → Int64) :=
  let q0 := f_18 x1;
  if q0 = 0 then
    let q6 := f_14 (-1) I L;
    (q6.1, q6.2.1, q6.2.2)
  else
    let q1 := f_27 x0 I;
    if q1 = 0 then
      let q5 := f_14 (-2) I L;
      (q5.1, q5.2.1, q5.2.2)
    else
      let q2 := f_20 (I 1 9) x0;
      let q3 := f_21 (I 1 9) x0 x1;
      let q4 := f_16 q2 (am_u I 1 9 q3) L;
      (q4.1, q4.2.1, q4.2.2)
def p_30 (x0 : Int32) (x1 : Int32) (I : Nat → Nat → Int32) (L : Nat → Nat → Int64) : Prop :=
  (let q0 := f_18 x1;
    if q0 = 0 then
      p_14 (-1) I L ∧
      (let q6 := f_14 (-1) I L;
        True)
    else
      (let q1 := f_27 x0 I;
        if q1 = 0 then
          p_14 (-2) I L ∧
          (let q5 := f_14 (-2) I L;
            True)
        else
          True))
set_option maxRecDepth 100000 in
theorem s_30 {S : am_S} {d N : Nat} {T : Nat → Nat × Nat} {I : Nat → Nat → Int32} {L : Nat → Nat → Int64} {r : Nat → Nat → Option Nat} {Q : am_Q} {x0 : Int32} {x1 : Int32} (hp : p_30 x0 x1 I L) (hq : Q (some (.int (f_30 x0 x1 I L).1)) (N, am_ts T, (f_30 x0 x1 I L).2.1, (f_30 x0 x1 I L).2.2, am_rs r)) : am_E S 30 (d + 1) 0 0 0 [.ref 0, .int x0, .int x1, am_jk] [] (N, am_ts T, I, L, am_rs r) Q := by
  unfold f_30 at hq
  unfold p_30 at hp
  try dsimp only at hq hp
  refine am_E.run [1] 2000 (show (am_E S 30 (d + 1) 0 0 1 [.ref 0, .int x0, .int x1, am_jk] [.int x1] (N, am_ts T, I, L, am_rs r) Q) from ?_)
  refine am_E.go ⟨fun v h9 => v = some (.int (f_18 x1)) ∧ h9 = (N, am_ts T, I, L, am_rs r), s_18 ⟨rfl, rfl⟩, ?_⟩
  intro v h9 hv
  obtain ⟨rfl, rfl⟩ := hv
  generalize he_q0 : f_18 x1 = q0 at hq hp ⊢
  refine am_E.run [9, 18] 2000 (show (if q0 = 0 then (am_E S 30 (d + 1) 0 0 9 [.ref 0, .int x0, .int x1, am_jk] [.int (-1), .ref 0] (N, am_ts T, I, L, am_rs r) Q) else (am_E S 30 (d + 1) 0 0 18 [.ref 0, .int x0, .int x1, am_jk] [.int x0, .ref 1] (N, am_ts T, I, L, am_rs r) Q)) from ?_)
  by_cases hc : q0 = 0
  · rw [if_pos hc] at hq hp ⊢
    refine am_E.go ⟨fun v h9 => v = some (.int (f_14 (-1) I L).1) ∧ h9 = (N, am_ts T, (f_14 (-1) I L).2.1, (f_14 (-1) I L).2.2, am_rs r), s_14 hp.1 ⟨rfl, rfl⟩, ?_⟩
    replace hp := hp.2
    intro v h9 hv
    obtain ⟨rfl, rfl⟩ := hv
    generalize he_q6 : f_14 (-1) I L = q6 at hq ⊢
    refine am_E.run [] 2000 (show (True ∧ Q (some (.int q6.1)) (N, am_ts T, q6.2.1, q6.2.2, am_rs r)) from ?_)
    exact ⟨trivial, hq⟩
  · rw [if_neg hc] at hq hp ⊢
    refine am_E.go ⟨fun v h9 => v = some (.int (f_27 x0 I)) ∧ h9 = (N, am_ts T, I, L, am_rs r), s_27 ⟨rfl, rfl⟩, ?_⟩
    intro v h9 hv
    obtain ⟨rfl, rfl⟩ := hv
    generalize he_q1 : f_27 x0 I = q1 at hq hp ⊢
    refine am_E.run [27, 39] 2000 (show (if q1 = 0 then (am_E S 30 (d + 1) 0 0 27 [.ref 0, .int x0, .int x1, am_jk] [.int (-2), .ref 0] (N, am_ts T, I, L, am_rs r) Q) else (am_E S 30 (d + 1) 0 0 39 [.ref 0, .int x0, .int x1, am_jk] [.int x0, .int (I 1 9)] (N, am_ts T, I, L, am_rs r) Q)) from ?_)
    by_cases hc : q1 = 0
    · rw [if_pos hc] at hq hp ⊢
      refine am_E.go ⟨fun v h9 => v = some (.int (f_14 (-2) I L).1) ∧ h9 = (N, am_ts T, (f_14 (-2) I L).2.1, (f_14 (-2) I L).2.2, am_rs r), s_14 hp.1 ⟨rfl, rfl⟩, ?_⟩
      replace hp := hp.2
      intro v h9 hv
      obtain ⟨rfl, rfl⟩ := hv
      generalize he_q5 : f_14 (-2) I L = q5 at hq ⊢
      refine am_E.run [] 2000 (show (True ∧ Q (some (.int q5.1)) (N, am_ts T, q5.2.1, q5.2.2, am_rs r)) from ?_)
      exact ⟨trivial, hq⟩
    · rw [if_neg hc] at hq hp ⊢
      refine am_E.go ⟨fun v h9 => v = some (.int (f_20 (I 1 9) x0)) ∧ h9 = (N, am_ts T, I, L, am_rs r), s_20 ⟨rfl, rfl⟩, ?_⟩
      intro v h9 hv
      obtain ⟨rfl, rfl⟩ := hv
      generalize he_q2 : f_20 (I 1 9) x0 = q2 at hq ⊢
      refine am_E.run [56] 2000 (show (am_E S 30 (d + 1) 0 0 56 [.ref 0, .int x0, .int x1, .int q2] [.int x1, .int x0, .int (I 1 9), .ref 1] (N, am_ts T, I, L, am_rs r) Q) from ?_)
      refine am_E.go ⟨fun v h9 => v = some (.int (f_21 (I 1 9) x0 x1)) ∧ h9 = (N, am_ts T, I, L, am_rs r), s_21 ⟨rfl, rfl⟩, ?_⟩
      intro v h9 hv
      obtain ⟨rfl, rfl⟩ := hv
      generalize he_q3 : f_21 (I 1 9) x0 x1 = q3 at hq ⊢
      refine am_E.run [64] 2000 (show (am_E S 30 (d + 1) 0 0 64 [.ref 0, .int x0, .int x1, .int q2] [.int q2, .ref 0] (N, am_ts T, (am_u I 1 9 q3), L, am_rs r) Q) from ?_)
      refine am_E.go ⟨fun v h9 => v = some (.int (f_16 q2 (am_u I 1 9 q3) L).1) ∧ h9 = (N, am_ts T, (f_16 q2 (am_u I 1 9 q3) L).2.1, (f_16 q2 (am_u I 1 9 q3) L).2.2, am_rs r), s_16 ⟨rfl, rfl⟩, ?_⟩
      intro v h9 hv
      obtain ⟨rfl, rfl⟩ := hv
      generalize he_q4 : f_16 q2 (am_u I 1 9 q3) L = q4 at hq ⊢
      refine am_E.run [] 2000 (show (True ∧ Q (some (.int q4.1)) (N, am_ts T, q4.2.1, q4.2.2, am_rs r)) from ?_)
      exact ⟨trivial, hq⟩
/-- KeyKeepers.end(I)I -/
def f_34 (x0 : Int32) (I : Nat → Nat → Int32) (L : Nat → Nat → Int64) : Int32 × (Nat → Nat → Int32) × (Nat → Nat → Int64) :=
  let q0 := f_13 x0 0 (I 14 1);
  if q0 = 0 then
    ((-1), I, L)
  else
    (x0, (am_u I 14 1 x0), L)
set_option maxRecDepth 100000 in
theorem s_34 {S : am_S} {d N : Nat} {T : Nat → Nat × Nat} {I : Nat → Nat → Int32} {L : Nat → Nat → Int64} {r : Nat → Nat → Option Nat} {Q : am_Q} {x0 : Int32} (hq : Q (some (.int (f_34 x0 I L).1)) (N, am_ts T, (f_34 x0 I L).2.1, (f_34 x0 I L).2.2, am_rs r)) : am_E S 34 (d + 1) 0 0 0 [.ref 0, .int x0] [] (N, am_ts T, I, L, am_rs r) Q := by
  unfold f_34 at hq
  try dsimp only at hq
  refine am_E.run [9] 2000 (show (am_E S 34 (d + 1) 0 0 9 [.ref 0, .int x0] [.int (I 14 1), .int 0, .int x0] (N, am_ts T, I, L, am_rs r) Q) from ?_)
  refine am_E.go ⟨fun v h9 => v = some (.int (f_13 x0 0 (I 14 1))) ∧ h9 = (N, am_ts T, I, L, am_rs r), s_13 ⟨rfl, rfl⟩, ?_⟩
  intro v h9 hv
  obtain ⟨rfl, rfl⟩ := hv
  generalize he_q0 : f_13 x0 0 (I 14 1) = q0 at hq ⊢
  refine am_E.run [] 2000 (show (if q0 = 0 then (True ∧ Q (some (.int (-1))) (N, am_ts T, I, L, am_rs r)) else (True ∧ Q (some (.int x0)) (N, am_ts T, (am_u I 14 1 x0), L, am_rs r))) from ?_)
  by_cases hc : q0 = 0
  · rw [if_pos hc] at hq ⊢
    exact ⟨trivial, hq⟩
  · rw [if_neg hc] at hq ⊢
    exact ⟨trivial, hq⟩
/-- KeyKeepers.rats()I -/
def f_37 (I : Nat → Nat → Int32) : Int32 :=
  (I 0 13)
set_option maxRecDepth 100000 in
theorem s_37 {S : am_S} {d N : Nat} {T : Nat → Nat × Nat} {I : Nat → Nat → Int32} {L : Nat → Nat → Int64} {r : Nat → Nat → Option Nat} {Q : am_Q} (hq : Q (some (.int (f_37 I))) (N, am_ts T, I, L, am_rs r)) : am_E S 37 (d + 0) 0 0 0 [.ref 0] [] (N, am_ts T, I, L, am_rs r) Q := by
  unfold f_37 at hq
  try dsimp only at hq
  refine am_E.run [] 2000 (show (True ∧ Q (some (.int (I 0 13))) (N, am_ts T, I, L, am_rs r)) from ?_)
  exact ⟨trivial, hq⟩
/-- KeyKeepers$Reader.isLetter(I)Z -/
def f_42 (x0 : Int32) : Int32 :=
  if x0 < 97 then
    0
  else
    if (122 : Int32) < x0 then
      0
    else
      1
set_option maxRecDepth 100000 in
theorem s_42 {S : am_S} {d N : Nat} {T : Nat → Nat × Nat} {I : Nat → Nat → Int32} {L : Nat → Nat → Int64} {r : Nat → Nat → Option Nat} {Q : am_Q} {x0 : Int32} (hq : Q (some (.int (f_42 x0))) (N, am_ts T, I, L, am_rs r)) : am_E S 42 (d + 0) 0 0 0 [.int x0] [] (N, am_ts T, I, L, am_rs r) Q := by
  unfold f_42 at hq
  try dsimp only at hq
  refine am_E.run [] 2000 (show (if x0 < 97 then (((0 : Int32) = 0 ∨ (0 : Int32) = 1) ∧ Q (some (.int 0)) (N, am_ts T, I, L, am_rs r)) else (if (122 : Int32) < x0 then (((0 : Int32) = 0 ∨ (0 : Int32) = 1) ∧ Q (some (.int 0)) (N, am_ts T, I, L, am_rs r)) else (((1 : Int32) = 0 ∨ (1 : Int32) = 1) ∧ Q (some (.int 1)) (N, am_ts T, I, L, am_rs r)))) from ?_)
  by_cases hc : x0 < 97
  · rw [if_pos hc] at hq ⊢
    exact ⟨Or.inl rfl, hq⟩
  · rw [if_neg hc] at hq ⊢
    by_cases hc : (122 : Int32) < x0
    · rw [if_pos hc] at hq ⊢
      exact ⟨Or.inl rfl, hq⟩
    · rw [if_neg hc] at hq ⊢
      exact ⟨Or.inr rfl, hq⟩
/-- KeyKeepers$Reader.isDigit(I)Z -/
def f_43 (x0 : Int32) : Int32 :=
  if x0 < 48 then
    0
  else
    if (57 : Int32) < x0 then
      0
    else
      1
set_option maxRecDepth 100000 in
theorem s_43 {S : am_S} {d N : Nat} {T : Nat → Nat × Nat} {I : Nat → Nat → Int32} {L : Nat → Nat → Int64} {r : Nat → Nat → Option Nat} {Q : am_Q} {x0 : Int32} (hq : Q (some (.int (f_43 x0))) (N, am_ts T, I, L, am_rs r)) : am_E S 43 (d + 0) 0 0 0 [.int x0] [] (N, am_ts T, I, L, am_rs r) Q := by
  unfold f_43 at hq
  try dsimp only at hq
  refine am_E.run [] 2000 (show (if x0 < 48 then (((0 : Int32) = 0 ∨ (0 : Int32) = 1) ∧ Q (some (.int 0)) (N, am_ts T, I, L, am_rs r)) else (if (57 : Int32) < x0 then (((0 : Int32) = 0 ∨ (0 : Int32) = 1) ∧ Q (some (.int 0)) (N, am_ts T, I, L, am_rs r)) else (((1 : Int32) = 0 ∨ (1 : Int32) = 1) ∧ Q (some (.int 1)) (N, am_ts T, I, L, am_rs r)))) from ?_)
  by_cases hc : x0 < 48
  · rw [if_pos hc] at hq ⊢
    exact ⟨Or.inl rfl, hq⟩
  · rw [if_neg hc] at hq ⊢
    by_cases hc : (57 : Int32) < x0
    · rw [if_pos hc] at hq ⊢
      exact ⟨Or.inl rfl, hq⟩
    · rw [if_neg hc] at hq ⊢
      exact ⟨Or.inr rfl, hq⟩
/-- KeyKeepers$Reader.advance()V -/
def f_58 (I : Nat → Nat → Int32) (L : Nat → Nat → Int64) : Int32 × (Nat → Nat → Int32) × (Nat → Nat → Int64) :=
  if (I 14 8) = 3000000 then
    (0, I, L)
  else
    if (400 : Int32) ≤ (I 14 7) then
      (0, I, L)
    else
      (0, (am_u (am_u I 14 7 ((I 14 7) + 1)) 14 8 (I 21 (Int32.toNatClampNeg ((I 14 7) + 1)))), L)
def p_58 (I : Nat → Nat → Int32) (L : Nat → Nat → Int64) : Prop :=
  if (I 14 8) = 3000000 then
    True
  else
    if (400 : Int32) ≤ (I 14 7) then
      True
    else
      ¬ (((I 14 7) + 1) < 0 ∨ 401 ≤ Int32.toNatClampNeg ((I 14 7) + 1)) ∧
      True
set_option maxRecDepth 100000 in
theorem s_58 {S : am_S} {d N : Nat} {T : Nat → Nat × Nat} {I : Nat → Nat → Int32} {L : Nat → Nat → Int64} {r : Nat → Nat → Option Nat} {Q : am_Q} (hp : p_58 I L) (hq : Q (none) (N, am_ts T, (f_58 I L).2.1, (f_58 I L).2.2, am_rs r)) : am_E S 58 (d + 0) 0 0 0 [.ref 14] [] (N, am_ts T, I, L, am_rs r) Q := by
  unfold f_58 at hq
  unfold p_58 at hp
  try dsimp only at hq hp
  refine am_E.run [] 2000 (show (if (I 14 8) = 3000000 then (True ∧ Q (none) (N, am_ts T, I, L, am_rs r)) else (if (400 : Int32) ≤ (I 14 7) then (True ∧ Q (none) (N, am_ts T, I, L, am_rs r)) else (if ((I 14 7) + 1) < 0 ∨ 401 ≤ Int32.toNatClampNeg ((I 14 7) + 1) then False else (True ∧ Q (none) (N, am_ts T, (am_u (am_u I 14 7 ((I 14 7) + 1)) 14 8 (I 21 (Int32.toNatClampNeg ((I 14 7) + 1)))), L, am_rs r))))) from ?_)
  by_cases hc : (I 14 8) = 3000000
  · rw [if_pos hc] at hq hp ⊢
    exact ⟨trivial, hq⟩
  · rw [if_neg hc] at hq hp ⊢
    by_cases hc : (400 : Int32) ≤ (I 14 7)
    · rw [if_pos hc] at hq hp ⊢
      exact ⟨trivial, hq⟩
    · rw [if_neg hc] at hq hp ⊢
      rw [if_neg hp.1]
      replace hp := hp.2
      exact ⟨trivial, hq⟩
/-- KeyKeepers$Reader.readToken(I)Z -/
def f_62 (x0 : Int32) (I : Nat → Nat → Int32) (L : Nat → Nat → Int64) : Int32 × (Nat → Nat → Int32) × (Nat → Nat → Int64) :=
  if (I 14 8) = x0 then
    let q0 := f_58 I L;
    (1, q0.2.1, q0.2.2)
  else
    (0, I, L)
def p_62 (x0 : Int32) (I : Nat → Nat → Int32) (L : Nat → Nat → Int64) : Prop :=
  if (I 14 8) = x0 then
    p_58 I L ∧
    (let q0 := f_58 I L;
      True)
  else
    True
set_option maxRecDepth 100000 in
theorem s_62 {S : am_S} {d N : Nat} {T : Nat → Nat × Nat} {I : Nat → Nat → Int32} {L : Nat → Nat → Int64} {r : Nat → Nat → Option Nat} {Q : am_Q} {x0 : Int32} (hp : p_62 x0 I L) (hq : Q (some (.int (f_62 x0 I L).1)) (N, am_ts T, (f_62 x0 I L).2.1, (f_62 x0 I L).2.2, am_rs r)) : am_E S 62 (d + 1) 0 0 0 [.ref 14, .int x0] [] (N, am_ts T, I, L, am_rs r) Q := by
  unfold f_62 at hq
  unfold p_62 at hp
  try dsimp only at hq hp
  refine am_E.run [11] 2000 (show (if (I 14 8) = x0 then (am_E S 62 (d + 1) 0 0 11 [.ref 14, .int x0] [.ref 14] (N, am_ts T, I, L, am_rs r) Q) else (((0 : Int32) = 0 ∨ (0 : Int32) = 1) ∧ Q (some (.int 0)) (N, am_ts T, I, L, am_rs r))) from ?_)
  by_cases hc : (I 14 8) = x0
  · rw [if_pos hc] at hq hp ⊢
    refine am_E.go ⟨fun v h9 => v = none ∧ h9 = (N, am_ts T, (f_58 I L).2.1, (f_58 I L).2.2, am_rs r), s_58 hp.1 ⟨rfl, rfl⟩, ?_⟩
    replace hp := hp.2
    intro v h9 hv
    obtain ⟨rfl, rfl⟩ := hv
    generalize he_q0 : f_58 I L = q0 at hq ⊢
    refine am_E.run [] 2000 (show (((1 : Int32) = 0 ∨ (1 : Int32) = 1) ∧ Q (some (.int 1)) (N, am_ts T, q0.2.1, q0.2.2, am_rs r)) from ?_)
    exact ⟨Or.inr rfl, hq⟩
  · rw [if_neg hc] at hq hp ⊢
    exact ⟨Or.inl rfl, hq⟩
/-- KeyKeepers$Reader.isAskedWord(I)Z -/
def f_63 (x0 : Int32) (I : Nat → Nat → Int32) : Int32 :=
  if (I 14 4) = 0 then
    if x0 = 23 then
      1
    else
      let q0 := f_13 x0 26 31;
      if q0 = 0 then
        0
      else
        1
  else
    let q1 := f_13 x0 16 25;
    q1
def p_63 (x0 : Int32) (I : Nat → Nat → Int32) : Prop :=
  if (I 14 4) = 0 then
    True
  else
    (let q1 := f_13 x0 16 25;
      (q1 = 0 ∨ q1 = 1))
set_option maxRecDepth 100000 in
theorem s_63 {S : am_S} {d N : Nat} {T : Nat → Nat × Nat} {I : Nat → Nat → Int32} {L : Nat → Nat → Int64} {r : Nat → Nat → Option Nat} {Q : am_Q} {x0 : Int32} (hp : p_63 x0 I) (hq : Q (some (.int (f_63 x0 I))) (N, am_ts T, I, L, am_rs r)) : am_E S 63 (d + 1) 0 0 0 [.ref 14, .int x0] [] (N, am_ts T, I, L, am_rs r) Q := by
  unfold f_63 at hq
  unfold p_63 at hp
  try dsimp only at hq hp
  refine am_E.run [12, 27] 2000 (show (if (I 14 4) = 0 then (if x0 = 23 then (((1 : Int32) = 0 ∨ (1 : Int32) = 1) ∧ Q (some (.int 1)) (N, am_ts T, I, L, am_rs r)) else (am_E S 63 (d + 1) 0 0 27 [.ref 14, .int x0] [.int 31, .int 26, .int x0] (N, am_ts T, I, L, am_rs r) Q)) else (am_E S 63 (d + 1) 0 0 12 [.ref 14, .int x0] [.int 25, .int 16, .int x0] (N, am_ts T, I, L, am_rs r) Q)) from ?_)
  by_cases hc : (I 14 4) = 0
  · rw [if_pos hc] at hq hp ⊢
    by_cases hc : x0 = 23
    · rw [if_pos hc] at hq ⊢
      exact ⟨Or.inr rfl, hq⟩
    · rw [if_neg hc] at hq ⊢
      refine am_E.go ⟨fun v h9 => v = some (.int (f_13 x0 26 31)) ∧ h9 = (N, am_ts T, I, L, am_rs r), s_13 ⟨rfl, rfl⟩, ?_⟩
      intro v h9 hv
      obtain ⟨rfl, rfl⟩ := hv
      generalize he_q0 : f_13 x0 26 31 = q0 at hq ⊢
      refine am_E.run [] 2000 (show (if q0 = 0 then (((0 : Int32) = 0 ∨ (0 : Int32) = 1) ∧ Q (some (.int 0)) (N, am_ts T, I, L, am_rs r)) else (((1 : Int32) = 0 ∨ (1 : Int32) = 1) ∧ Q (some (.int 1)) (N, am_ts T, I, L, am_rs r))) from ?_)
      by_cases hc : q0 = 0
      · rw [if_pos hc] at hq ⊢
        exact ⟨Or.inl rfl, hq⟩
      · rw [if_neg hc] at hq ⊢
        exact ⟨Or.inr rfl, hq⟩
  · rw [if_neg hc] at hq hp ⊢
    refine am_E.go ⟨fun v h9 => v = some (.int (f_13 x0 16 25)) ∧ h9 = (N, am_ts T, I, L, am_rs r), s_13 ⟨rfl, rfl⟩, ?_⟩
    intro v h9 hv
    obtain ⟨rfl, rfl⟩ := hv
    generalize he_q1 : f_13 x0 16 25 = q1 at hq hp ⊢
    refine am_E.run [] 2000 (show ((q1 = 0 ∨ q1 = 1) ∧ Q (some (.int q1)) (N, am_ts T, I, L, am_rs r)) from ?_)
    exact ⟨hp, hq⟩
/-- KeyKeepers$Machine.puts(LKeyKeepers$Prison;II)Z -/
def f_89 (x1 : Int32) (x2 : Int32) (I : Nat → Nat → Int32) (L : Nat → Nat → Int64) : Int32 × (Nat → Nat → Int32) × (Nat → Nat → Int64) :=
  if x1 = 1 then
    if (Int32.ofNat 14) ≤ x2 then
      if (I 24 3) < 32 then
        (1, (am_u (am_u I 26 (Int32.toNatClampNeg (I 24 3)) 0) 24 3 ((I 24 3) + 1)), L)
      else
        (0, I, L)
    else
      if (I 24 3) < 32 then
        (1, (am_u (am_u I 26 (Int32.toNatClampNeg (I 24 3)) (I 25 (Int32.toNatClampNeg x2))) 24 3 ((I 24 3) + 1)), L)
      else
        (0, I, L)
  else
    if x1 = 2 then
      if (I 1 10) ≤ x2 then
        if (I 24 3) < 32 then
          (1, (am_u (am_u I 26 (Int32.toNatClampNeg (I 24 3)) (-1)) 24 3 ((I 24 3) + 1)), L)
        else
          (0, I, L)
      else
        if (I 24 3) < 32 then
          (1, (am_u (am_u I 26 (Int32.toNatClampNeg (I 24 3)) (I 6 (Int32.toNatClampNeg x2))) 24 3 ((I 24 3) + 1)), L)
        else
          (0, I, L)
    else
      if x1 = 3 then
        if (I 1 10) ≤ (x2 / 12) then
          if (I 24 3) < 32 then
            (1, (am_u (am_u I 26 (Int32.toNatClampNeg (I 24 3)) (-1)) 24 3 ((I 24 3) + 1)), L)
          else
            (0, I, L)
        else
          if (I 24 3) < 32 then
            (1, (am_u (am_u I 26 (Int32.toNatClampNeg (I 24 3)) (((I 7 (Int32.toNatClampNeg (x2 / 12))) >>> ((x2 - x2 / 12 * 12) &&& 31)) &&& 1)) 24 3 ((I 24 3) + 1)), L)
          else
            (0, I, L)
      else
        if (I 24 3) < 32 then
          (1, (am_u (am_u I 26 (Int32.toNatClampNeg (I 24 3)) x2) 24 3 ((I 24 3) + 1)), L)
        else
          (0, I, L)
def p_89 (x1 : Int32) (x2 : Int32) (I : Nat → Nat → Int32) (L : Nat → Nat → Int64) : Prop :=
  if x1 = 1 then
    if (Int32.ofNat 14) ≤ x2 then
      if (I 24 3) < 32 then
        ¬ ((I 24 3) < 0 ∨ 32 ≤ Int32.toNatClampNeg (I 24 3)) ∧
        True
      else
        True
    else
      ¬ (x2 < 0 ∨ 14 ≤ Int32.toNatClampNeg x2) ∧
      if (I 24 3) < 32 then
        ¬ ((I 24 3) < 0 ∨ 32 ≤ Int32.toNatClampNeg (I 24 3)) ∧
        True
      else
        True
  else
    if x1 = 2 then
      if (I 1 10) ≤ x2 then
        if (I 24 3) < 32 then
          ¬ ((I 24 3) < 0 ∨ 32 ≤ Int32.toNatClampNeg (I 24 3)) ∧
          True
        else
          True
      else
        ¬ (x2 < 0 ∨ 8 ≤ Int32.toNatClampNeg x2) ∧
        if (I 24 3) < 32 then
          ¬ ((I 24 3) < 0 ∨ 32 ≤ Int32.toNatClampNeg (I 24 3)) ∧
          True
        else
          True
    else
      if x1 = 3 then
        if (I 1 10) ≤ (x2 / 12) then
          if (I 24 3) < 32 then
            ¬ ((I 24 3) < 0 ∨ 32 ≤ Int32.toNatClampNeg (I 24 3)) ∧
            True
          else
            True
        else
          ¬ ((x2 / 12) < 0 ∨ 8 ≤ Int32.toNatClampNeg (x2 / 12)) ∧
          if (I 24 3) < 32 then
            ¬ ((I 24 3) < 0 ∨ 32 ≤ Int32.toNatClampNeg (I 24 3)) ∧
            True
          else
            True
      else
        if (I 24 3) < 32 then
          ¬ ((I 24 3) < 0 ∨ 32 ≤ Int32.toNatClampNeg (I 24 3)) ∧
          True
        else
          True
set_option maxRecDepth 100000 in
theorem s_89 {S : am_S} {d N : Nat} {T : Nat → Nat × Nat} {I : Nat → Nat → Int32} {L : Nat → Nat → Int64} {r : Nat → Nat → Option Nat} {Q : am_Q} {x1 : Int32} {x2 : Int32} (hp : p_89 x1 x2 I L) (hq : Q (some (.int (f_89 x1 x2 I L).1)) (N, am_ts T, (f_89 x1 x2 I L).2.1, (f_89 x1 x2 I L).2.2, am_rs r)) : am_E S 89 (d + 0) 0 0 0 [.ref 24, .ref 1, .int x1, .int x2, am_jk, am_jk] [] (N, am_ts T, I, L, am_rs r) Q := by
  unfold f_89 at hq
  unfold p_89 at hp
  try dsimp only at hq hp
  refine am_E.run [] 2000 (show (if x1 = 1 then (if (Int32.ofNat 14) ≤ x2 then (if (I 24 3) < 32 then (if (I 24 3) < 0 ∨ 32 ≤ Int32.toNatClampNeg (I 24 3) then False else (((1 : Int32) = 0 ∨ (1 : Int32) = 1) ∧ Q (some (.int 1)) (N, am_ts T, (am_u (am_u I 26 (Int32.toNatClampNeg (I 24 3)) 0) 24 3 ((I 24 3) + 1)), L, am_rs r))) else (((0 : Int32) = 0 ∨ (0 : Int32) = 1) ∧ Q (some (.int 0)) (N, am_ts T, I, L, am_rs r))) else (if x2 < 0 ∨ 14 ≤ Int32.toNatClampNeg x2 then False else (if (I 24 3) < 32 then (if (I 24 3) < 0 ∨ 32 ≤ Int32.toNatClampNeg (I 24 3) then False else (((1 : Int32) = 0 ∨ (1 : Int32) = 1) ∧ Q (some (.int 1)) (N, am_ts T, (am_u (am_u I 26 (Int32.toNatClampNeg (I 24 3)) (I 25 (Int32.toNatClampNeg x2))) 24 3 ((I 24 3) + 1)), L, am_rs r))) else (((0 : Int32) = 0 ∨ (0 : Int32) = 1) ∧ Q (some (.int 0)) (N, am_ts T, I, L, am_rs r))))) else (if x1 = 2 then (if (I 1 10) ≤ x2 then (if (I 24 3) < 32 then (if (I 24 3) < 0 ∨ 32 ≤ Int32.toNatClampNeg (I 24 3) then False else (((1 : Int32) = 0 ∨ (1 : Int32) = 1) ∧ Q (some (.int 1)) (N, am_ts T, (am_u (am_u I 26 (Int32.toNatClampNeg (I 24 3)) (-1)) 24 3 ((I 24 3) + 1)), L, am_rs r))) else (((0 : Int32) = 0 ∨ (0 : Int32) = 1) ∧ Q (some (.int 0)) (N, am_ts T, I, L, am_rs r))) else (if x2 < 0 ∨ 8 ≤ Int32.toNatClampNeg x2 then False else (if (I 24 3) < 32 then (if (I 24 3) < 0 ∨ 32 ≤ Int32.toNatClampNeg (I 24 3) then False else (((1 : Int32) = 0 ∨ (1 : Int32) = 1) ∧ Q (some (.int 1)) (N, am_ts T, (am_u (am_u I 26 (Int32.toNatClampNeg (I 24 3)) (I 6 (Int32.toNatClampNeg x2))) 24 3 ((I 24 3) + 1)), L, am_rs r))) else (((0 : Int32) = 0 ∨ (0 : Int32) = 1) ∧ Q (some (.int 0)) (N, am_ts T, I, L, am_rs r))))) else (if x1 = 3 then (if (I 1 10) ≤ (x2 / 12) then (if (I 24 3) < 32 then (if (I 24 3) < 0 ∨ 32 ≤ Int32.toNatClampNeg (I 24 3) then False else (((1 : Int32) = 0 ∨ (1 : Int32) = 1) ∧ Q (some (.int 1)) (N, am_ts T, (am_u (am_u I 26 (Int32.toNatClampNeg (I 24 3)) (-1)) 24 3 ((I 24 3) + 1)), L, am_rs r))) else (((0 : Int32) = 0 ∨ (0 : Int32) = 1) ∧ Q (some (.int 0)) (N, am_ts T, I, L, am_rs r))) else (if (x2 / 12) < 0 ∨ 8 ≤ Int32.toNatClampNeg (x2 / 12) then False else (if (I 24 3) < 32 then (if (I 24 3) < 0 ∨ 32 ≤ Int32.toNatClampNeg (I 24 3) then False else (((1 : Int32) = 0 ∨ (1 : Int32) = 1) ∧ Q (some (.int 1)) (N, am_ts T, (am_u (am_u I 26 (Int32.toNatClampNeg (I 24 3)) (((I 7 (Int32.toNatClampNeg (x2 / 12))) >>> ((x2 - x2 / 12 * 12) &&& 31)) &&& 1)) 24 3 ((I 24 3) + 1)), L, am_rs r))) else (((0 : Int32) = 0 ∨ (0 : Int32) = 1) ∧ Q (some (.int 0)) (N, am_ts T, I, L, am_rs r))))) else (if (I 24 3) < 32 then (if (I 24 3) < 0 ∨ 32 ≤ Int32.toNatClampNeg (I 24 3) then False else (((1 : Int32) = 0 ∨ (1 : Int32) = 1) ∧ Q (some (.int 1)) (N, am_ts T, (am_u (am_u I 26 (Int32.toNatClampNeg (I 24 3)) x2) 24 3 ((I 24 3) + 1)), L, am_rs r))) else (((0 : Int32) = 0 ∨ (0 : Int32) = 1) ∧ Q (some (.int 0)) (N, am_ts T, I, L, am_rs r)))))) from ?_)
  by_cases hc : x1 = 1
  · rw [if_pos hc] at hq hp ⊢
    by_cases hc : (Int32.ofNat 14) ≤ x2
    · rw [if_pos hc] at hq hp ⊢
      by_cases hc : (I 24 3) < 32
      · rw [if_pos hc] at hq hp ⊢
        rw [if_neg hp.1]
        replace hp := hp.2
        exact ⟨Or.inr rfl, hq⟩
      · rw [if_neg hc] at hq hp ⊢
        exact ⟨Or.inl rfl, hq⟩
    · rw [if_neg hc] at hq hp ⊢
      rw [if_neg hp.1]
      replace hp := hp.2
      by_cases hc : (I 24 3) < 32
      · rw [if_pos hc] at hq hp ⊢
        rw [if_neg hp.1]
        replace hp := hp.2
        exact ⟨Or.inr rfl, hq⟩
      · rw [if_neg hc] at hq hp ⊢
        exact ⟨Or.inl rfl, hq⟩
  · rw [if_neg hc] at hq hp ⊢
    by_cases hc : x1 = 2
    · rw [if_pos hc] at hq hp ⊢
      by_cases hc : (I 1 10) ≤ x2
      · rw [if_pos hc] at hq hp ⊢
        by_cases hc : (I 24 3) < 32
        · rw [if_pos hc] at hq hp ⊢
          rw [if_neg hp.1]
          replace hp := hp.2
          exact ⟨Or.inr rfl, hq⟩
        · rw [if_neg hc] at hq hp ⊢
          exact ⟨Or.inl rfl, hq⟩
      · rw [if_neg hc] at hq hp ⊢
        rw [if_neg hp.1]
        replace hp := hp.2
        by_cases hc : (I 24 3) < 32
        · rw [if_pos hc] at hq hp ⊢
          rw [if_neg hp.1]
          replace hp := hp.2
          exact ⟨Or.inr rfl, hq⟩
        · rw [if_neg hc] at hq hp ⊢
          exact ⟨Or.inl rfl, hq⟩
    · rw [if_neg hc] at hq hp ⊢
      by_cases hc : x1 = 3
      · rw [if_pos hc] at hq hp ⊢
        by_cases hc : (I 1 10) ≤ (x2 / 12)
        · rw [if_pos hc] at hq hp ⊢
          by_cases hc : (I 24 3) < 32
          · rw [if_pos hc] at hq hp ⊢
            rw [if_neg hp.1]
            replace hp := hp.2
            exact ⟨Or.inr rfl, hq⟩
          · rw [if_neg hc] at hq hp ⊢
            exact ⟨Or.inl rfl, hq⟩
        · rw [if_neg hc] at hq hp ⊢
          rw [if_neg hp.1]
          replace hp := hp.2
          by_cases hc : (I 24 3) < 32
          · rw [if_pos hc] at hq hp ⊢
            rw [if_neg hp.1]
            replace hp := hp.2
            exact ⟨Or.inr rfl, hq⟩
          · rw [if_neg hc] at hq hp ⊢
            exact ⟨Or.inl rfl, hq⟩
      · rw [if_neg hc] at hq hp ⊢
        by_cases hc : (I 24 3) < 32
        · rw [if_pos hc] at hq hp ⊢
          rw [if_neg hp.1]
          replace hp := hp.2
          exact ⟨Or.inr rfl, hq⟩
        · rw [if_neg hc] at hq hp ⊢
          exact ⟨Or.inl rfl, hq⟩
/-- KeyKeepers$Machine.turns(I)Z -/
def f_91 (x0 : Int32) (I : Nat → Nat → Int32) (L : Nat → Nat → Int64) : Int32 × (Nat → Nat → Int32) × (Nat → Nat → Int64) :=
  if (1 : Int32) ≤ (I 24 3) then
    if x0 = 12 then
      (0, (am_u I 26 (Int32.toNatClampNeg ((I 24 3) - 1)) (1 - (I 26 (Int32.toNatClampNeg ((I 24 3) - 1))))), L)
    else
      if x0 = 13 then
        if (I 26 (Int32.toNatClampNeg ((I 24 3) - 1))) = 1 then
          (1, I, L)
        else
          (0, (am_u I 24 3 ((I 24 3) - 1)), L)
      else
        if (I 26 (Int32.toNatClampNeg ((I 24 3) - 1))) = 0 then
          (1, I, L)
        else
          (0, (am_u I 24 3 ((I 24 3) - 1)), L)
  else
    (0, I, L)
def p_91 (x0 : Int32) (I : Nat → Nat → Int32) (L : Nat → Nat → Int64) : Prop :=
  if (1 : Int32) ≤ (I 24 3) then
    ¬ (((I 24 3) - 1) < 0 ∨ 32 ≤ Int32.toNatClampNeg ((I 24 3) - 1)) ∧
    if x0 = 12 then
      ¬ (((I 24 3) - 1) < 0 ∨ 32 ≤ Int32.toNatClampNeg ((I 24 3) - 1)) ∧
      True
    else
      True
  else
    True
set_option maxRecDepth 100000 in
theorem s_91 {S : am_S} {d N : Nat} {T : Nat → Nat × Nat} {I : Nat → Nat → Int32} {L : Nat → Nat → Int64} {r : Nat → Nat → Option Nat} {Q : am_Q} {x0 : Int32} (hp : p_91 x0 I L) (hq : Q (some (.int (f_91 x0 I L).1)) (N, am_ts T, (f_91 x0 I L).2.1, (f_91 x0 I L).2.2, am_rs r)) : am_E S 91 (d + 0) 0 0 0 [.ref 24, .int x0, am_jk, am_jk] [] (N, am_ts T, I, L, am_rs r) Q := by
  unfold f_91 at hq
  unfold p_91 at hp
  try dsimp only at hq hp
  refine am_E.run [] 2000 (show (if (1 : Int32) ≤ (I 24 3) then (if ((I 24 3) - 1) < 0 ∨ 32 ≤ Int32.toNatClampNeg ((I 24 3) - 1) then False else (if x0 = 12 then (if ((I 24 3) - 1) < 0 ∨ 32 ≤ Int32.toNatClampNeg ((I 24 3) - 1) then False else (((0 : Int32) = 0 ∨ (0 : Int32) = 1) ∧ Q (some (.int 0)) (N, am_ts T, (am_u I 26 (Int32.toNatClampNeg ((I 24 3) - 1)) (1 - (I 26 (Int32.toNatClampNeg ((I 24 3) - 1))))), L, am_rs r))) else (if x0 = 13 then (if (I 26 (Int32.toNatClampNeg ((I 24 3) - 1))) = 1 then (((1 : Int32) = 0 ∨ (1 : Int32) = 1) ∧ Q (some (.int 1)) (N, am_ts T, I, L, am_rs r)) else (((0 : Int32) = 0 ∨ (0 : Int32) = 1) ∧ Q (some (.int 0)) (N, am_ts T, (am_u I 24 3 ((I 24 3) - 1)), L, am_rs r))) else (if (I 26 (Int32.toNatClampNeg ((I 24 3) - 1))) = 0 then (((1 : Int32) = 0 ∨ (1 : Int32) = 1) ∧ Q (some (.int 1)) (N, am_ts T, I, L, am_rs r)) else (((0 : Int32) = 0 ∨ (0 : Int32) = 1) ∧ Q (some (.int 0)) (N, am_ts T, (am_u I 24 3 ((I 24 3) - 1)), L, am_rs r)))))) else (((0 : Int32) = 0 ∨ (0 : Int32) = 1) ∧ Q (some (.int 0)) (N, am_ts T, I, L, am_rs r))) from ?_)
  by_cases hc : (1 : Int32) ≤ (I 24 3)
  · rw [if_pos hc] at hq hp ⊢
    rw [if_neg hp.1]
    replace hp := hp.2
    by_cases hc : x0 = 12
    · rw [if_pos hc] at hq hp ⊢
      rw [if_neg hp.1]
      replace hp := hp.2
      exact ⟨Or.inl rfl, hq⟩
    · rw [if_neg hc] at hq hp ⊢
      by_cases hc : x0 = 13
      · rw [if_pos hc] at hq ⊢
        by_cases hc : (I 26 (Int32.toNatClampNeg ((I 24 3) - 1))) = 1
        · rw [if_pos hc] at hq ⊢
          exact ⟨Or.inr rfl, hq⟩
        · rw [if_neg hc] at hq ⊢
          exact ⟨Or.inl rfl, hq⟩
      · rw [if_neg hc] at hq ⊢
        by_cases hc : (I 26 (Int32.toNatClampNeg ((I 24 3) - 1))) = 0
        · rw [if_pos hc] at hq ⊢
          exact ⟨Or.inr rfl, hq⟩
        · rw [if_neg hc] at hq ⊢
          exact ⟨Or.inl rfl, hq⟩
  · rw [if_neg hc] at hq hp ⊢
    exact ⟨Or.inl rfl, hq⟩
