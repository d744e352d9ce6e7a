/-- KeyKeepers.fault()I -/
def f_103 (I : Nat → Nat → Int32) : Int32 :=
  (I 14 2)
set_option maxRecDepth 100000 in
theorem s_103 {S : am_S} {d N : Nat} {T : Nat → Nat × Nat} {I : Nat → Nat → Int32} {L : Nat → Nat → Int64} {r : Nat → Nat → Option Nat} {Q : am_Q} (hq : Q (some (.int (f_103 I))) (N, am_ts T, I, L, am_rs r)) : am_E S 103 (d + 0) 0 0 0 [.ref 0] [] (N, am_ts T, I, L, am_rs r) Q := by
  unfold f_103 at hq
  try dsimp only at hq
  refine am_E.run [] 2000 (show (True ∧ Q (some (.int (I 14 2))) (N, am_ts T, I, L, am_rs r)) from ?_)
  exact ⟨trivial, hq⟩
/-- KeyKeepers.stopped()I -/
def f_104 (I : Nat → Nat → Int32) : Int32 :=
  (I 35 1)
set_option maxRecDepth 100000 in
theorem s_104 {S : am_S} {d N : Nat} {T : Nat → Nat × Nat} {I : Nat → Nat → Int32} {L : Nat → Nat → Int64} {r : Nat → Nat → Option Nat} {Q : am_Q} (hq : Q (some (.int (f_104 I))) (N, am_ts T, I, L, am_rs r)) : am_E S 104 (d + 0) 0 0 0 [.ref 0] [] (N, am_ts T, I, L, am_rs r) Q := by
  unfold f_104 at hq
  try dsimp only at hq
  refine am_E.run [] 2000 (show (True ∧ Q (some (.int (I 35 1))) (N, am_ts T, I, L, am_rs r)) from ?_)
  exact ⟨trivial, hq⟩
/-- KeyKeepers$Prison.hasLaw(I)Z -/
def f_106 (x0 : Int32) (I : Nat → Nat → Int32) : Int32 :=
  if x0 < 0 then
    0
  else
    if (I 1 15) ≤ x0 then
      0
    else
      1
set_option maxRecDepth 100000 in
theorem s_106 {S : am_S} {d N : Nat} {T : Nat → Nat × Nat} {I : Nat → Nat → Int32} {L : Nat → Nat → Int64} {r : Nat → Nat → Option Nat} {Q : am_Q} {x0 : Int32} (hq : Q (some (.int (f_106 x0 I))) (N, am_ts T, I, L, am_rs r)) : am_E S 106 (d + 0) 0 0 0 [.ref 1, .int x0] [] (N, am_ts T, I, L, am_rs r) Q := by
  unfold f_106 at hq
  try dsimp only at hq
  refine am_E.run [] 2000 (show (if x0 < 0 then (((0 : Int32) = 0 ∨ (0 : Int32) = 1) ∧ Q (some (.int 0)) (N, am_ts T, I, L, am_rs r)) else (if (I 1 15) ≤ x0 then (((0 : Int32) = 0 ∨ (0 : Int32) = 1) ∧ Q (some (.int 0)) (N, am_ts T, I, L, am_rs r)) else (((1 : Int32) = 0 ∨ (1 : Int32) = 1) ∧ Q (some (.int 1)) (N, am_ts T, I, L, am_rs r)))) from ?_)
  by_cases hc : x0 < 0
  · rw [if_pos hc] at hq ⊢
    exact ⟨Or.inl rfl, hq⟩
  · rw [if_neg hc] at hq ⊢
    by_cases hc : (I 1 15) ≤ x0
    · rw [if_pos hc] at hq ⊢
      exact ⟨Or.inl rfl, hq⟩
    · rw [if_neg hc] at hq ⊢
      exact ⟨Or.inr rfl, hq⟩
/-- java/lang/Integer.bitCount(I)I -/
def f_111 (x0 : Int32) : Int32 :=
  ((((((((x0 - ((UInt32.toInt32 (Int32.toUInt32 x0 >>> (Int32.toUInt32 1 &&& Int32.toUInt32 31))) &&& 1431655765)) &&& 858993459) + ((UInt32.toInt32 (Int32.toUInt32 (x0 - ((UInt32.toInt32 (Int32.toUInt32 x0 >>> (Int32.toUInt32 1 &&& Int32.toUInt32 31))) &&& 1431655765)) >>> (Int32.toUInt32 2 &&& Int32.toUInt32 31))) &&& 858993459)) + (UInt32.toInt32 (Int32.toUInt32 (((x0 - ((UInt32.toInt32 (Int32.toUInt32 x0 >>> (Int32.toUInt32 1 &&& Int32.toUInt32 31))) &&& 1431655765)) &&& 858993459) + ((UInt32.toInt32 (Int32.toUInt32 (x0 - ((UInt32.toInt32 (Int32.toUInt32 x0 >>> (Int32.toUInt32 1 &&& Int32.toUInt32 31))) &&& 1431655765)) >>> (Int32.toUInt32 2 &&& Int32.toUInt32 31))) &&& 858993459)) >>> (Int32.toUInt32 4 &&& Int32.toUInt32 31)))) &&& 252645135) + (UInt32.toInt32 (Int32.toUInt32 (((((x0 - ((UInt32.toInt32 (Int32.toUInt32 x0 >>> (Int32.toUInt32 1 &&& Int32.toUInt32 31))) &&& 1431655765)) &&& 858993459) + ((UInt32.toInt32 (Int32.toUInt32 (x0 - ((UInt32.toInt32 (Int32.toUInt32 x0 >>> (Int32.toUInt32 1 &&& Int32.toUInt32 31))) &&& 1431655765)) >>> (Int32.toUInt32 2 &&& Int32.toUInt32 31))) &&& 858993459)) + (UInt32.toInt32 (Int32.toUInt32 (((x0 - ((UInt32.toInt32 (Int32.toUInt32 x0 >>> (Int32.toUInt32 1 &&& Int32.toUInt32 31))) &&& 1431655765)) &&& 858993459) + ((UInt32.toInt32 (Int32.toUInt32 (x0 - ((UInt32.toInt32 (Int32.toUInt32 x0 >>> (Int32.toUInt32 1 &&& Int32.toUInt32 31))) &&& 1431655765)) >>> (Int32.toUInt32 2 &&& Int32.toUInt32 31))) &&& 858993459)) >>> (Int32.toUInt32 4 &&& Int32.toUInt32 31)))) &&& 252645135) >>> (Int32.toUInt32 8 &&& Int32.toUInt32 31)))) + (UInt32.toInt32 (Int32.toUInt32 ((((((x0 - ((UInt32.toInt32 (Int32.toUInt32 x0 >>> (Int32.toUInt32 1 &&& Int32.toUInt32 31))) &&& 1431655765)) &&& 858993459) + ((UInt32.toInt32 (Int32.toUInt32 (x0 - ((UInt32.toInt32 (Int32.toUInt32 x0 >>> (Int32.toUInt32 1 &&& Int32.toUInt32 31))) &&& 1431655765)) >>> (Int32.toUInt32 2 &&& Int32.toUInt32 31))) &&& 858993459)) + (UInt32.toInt32 (Int32.toUInt32 (((x0 - ((UInt32.toInt32 (Int32.toUInt32 x0 >>> (Int32.toUInt32 1 &&& Int32.toUInt32 31))) &&& 1431655765)) &&& 858993459) + ((UInt32.toInt32 (Int32.toUInt32 (x0 - ((UInt32.toInt32 (Int32.toUInt32 x0 >>> (Int32.toUInt32 1 &&& Int32.toUInt32 31))) &&& 1431655765)) >>> (Int32.toUInt32 2 &&& Int32.toUInt32 31))) &&& 858993459)) >>> (Int32.toUInt32 4 &&& Int32.toUInt32 31)))) &&& 252645135) + (UInt32.toInt32 (Int32.toUInt32 (((((x0 - ((UInt32.toInt32 (Int32.toUInt32 x0 >>> (Int32.toUInt32 1 &&& Int32.toUInt32 31))) &&& 1431655765)) &&& 858993459) + ((UInt32.toInt32 (Int32.toUInt32 (x0 - ((UInt32.toInt32 (Int32.toUInt32 x0 >>> (Int32.toUInt32 1 &&& Int32.toUInt32 31))) &&& 1431655765)) >>> (Int32.toUInt32 2 &&& Int32.toUInt32 31))) &&& 858993459)) + (UInt32.toInt32 (Int32.toUInt32 (((x0 - ((UInt32.toInt32 (Int32.toUInt32 x0 >>> (Int32.toUInt32 1 &&& Int32.toUInt32 31))) &&& 1431655765)) &&& 858993459) + ((UInt32.toInt32 (Int32.toUInt32 (x0 - ((UInt32.toInt32 (Int32.toUInt32 x0 >>> (Int32.toUInt32 1 &&& Int32.toUInt32 31))) &&& 1431655765)) >>> (Int32.toUInt32 2 &&& Int32.toUInt32 31))) &&& 858993459)) >>> (Int32.toUInt32 4 &&& Int32.toUInt32 31)))) &&& 252645135) >>> (Int32.toUInt32 8 &&& Int32.toUInt32 31)))) >>> (Int32.toUInt32 16 &&& Int32.toUInt32 31)))) &&& 63)
set_option maxRecDepth 100000 in
theorem s_111 {S : am_S} {d N : Nat} {T : Nat → Nat × Nat} {I : Nat → Nat → Int32} {L : Nat → Nat → Int64} {r : Nat → Nat → Option Nat} {Q : am_Q} {x0 : Int32} (hq : Q (some (.int (f_111 x0))) (N, am_ts T, I, L, am_rs r)) : am_E S 111 (d + 0) 0 0 0 [.int x0] [] (N, am_ts T, I, L, am_rs r) Q := by
  unfold f_111 at hq
  try dsimp only at hq
  refine am_E.run [] 2000 (show (True ∧ Q (some (.int ((((((((x0 - ((UInt32.toInt32 (Int32.toUInt32 x0 >>> (Int32.toUInt32 1 &&& Int32.toUInt32 31))) &&& 1431655765)) &&& 858993459) + ((UInt32.toInt32 (Int32.toUInt32 (x0 - ((UInt32.toInt32 (Int32.toUInt32 x0 >>> (Int32.toUInt32 1 &&& Int32.toUInt32 31))) &&& 1431655765)) >>> (Int32.toUInt32 2 &&& Int32.toUInt32 31))) &&& 858993459)) + (UInt32.toInt32 (Int32.toUInt32 (((x0 - ((UInt32.toInt32 (Int32.toUInt32 x0 >>> (Int32.toUInt32 1 &&& Int32.toUInt32 31))) &&& 1431655765)) &&& 858993459) + ((UInt32.toInt32 (Int32.toUInt32 (x0 - ((UInt32.toInt32 (Int32.toUInt32 x0 >>> (Int32.toUInt32 1 &&& Int32.toUInt32 31))) &&& 1431655765)) >>> (Int32.toUInt32 2 &&& Int32.toUInt32 31))) &&& 858993459)) >>> (Int32.toUInt32 4 &&& Int32.toUInt32 31)))) &&& 252645135) + (UInt32.toInt32 (Int32.toUInt32 (((((x0 - ((UInt32.toInt32 (Int32.toUInt32 x0 >>> (Int32.toUInt32 1 &&& Int32.toUInt32 31))) &&& 1431655765)) &&& 858993459) + ((UInt32.toInt32 (Int32.toUInt32 (x0 - ((UInt32.toInt32 (Int32.toUInt32 x0 >>> (Int32.toUInt32 1 &&& Int32.toUInt32 31))) &&& 1431655765)) >>> (Int32.toUInt32 2 &&& Int32.toUInt32 31))) &&& 858993459)) + (UInt32.toInt32 (Int32.toUInt32 (((x0 - ((UInt32.toInt32 (Int32.toUInt32 x0 >>> (Int32.toUInt32 1 &&& Int32.toUInt32 31))) &&& 1431655765)) &&& 858993459) + ((UInt32.toInt32 (Int32.toUInt32 (x0 - ((UInt32.toInt32 (Int32.toUInt32 x0 >>> (Int32.toUInt32 1 &&& Int32.toUInt32 31))) &&& 1431655765)) >>> (Int32.toUInt32 2 &&& Int32.toUInt32 31))) &&& 858993459)) >>> (Int32.toUInt32 4 &&& Int32.toUInt32 31)))) &&& 252645135) >>> (Int32.toUInt32 8 &&& Int32.toUInt32 31)))) + (UInt32.toInt32 (Int32.toUInt32 ((((((x0 - ((UInt32.toInt32 (Int32.toUInt32 x0 >>> (Int32.toUInt32 1 &&& Int32.toUInt32 31))) &&& 1431655765)) &&& 858993459) + ((UInt32.toInt32 (Int32.toUInt32 (x0 - ((UInt32.toInt32 (Int32.toUInt32 x0 >>> (Int32.toUInt32 1 &&& Int32.toUInt32 31))) &&& 1431655765)) >>> (Int32.toUInt32 2 &&& Int32.toUInt32 31))) &&& 858993459)) + (UInt32.toInt32 (Int32.toUInt32 (((x0 - ((UInt32.toInt32 (Int32.toUInt32 x0 >>> (Int32.toUInt32 1 &&& Int32.toUInt32 31))) &&& 1431655765)) &&& 858993459) + ((UInt32.toInt32 (Int32.toUInt32 (x0 - ((UInt32.toInt32 (Int32.toUInt32 x0 >>> (Int32.toUInt32 1 &&& Int32.toUInt32 31))) &&& 1431655765)) >>> (Int32.toUInt32 2 &&& Int32.toUInt32 31))) &&& 858993459)) >>> (Int32.toUInt32 4 &&& Int32.toUInt32 31)))) &&& 252645135) + (UInt32.toInt32 (Int32.toUInt32 (((((x0 - ((UInt32.toInt32 (Int32.toUInt32 x0 >>> (Int32.toUInt32 1 &&& Int32.toUInt32 31))) &&& 1431655765)) &&& 858993459) + ((UInt32.toInt32 (Int32.toUInt32 (x0 - ((UInt32.toInt32 (Int32.toUInt32 x0 >>> (Int32.toUInt32 1 &&& Int32.toUInt32 31))) &&& 1431655765)) >>> (Int32.toUInt32 2 &&& Int32.toUInt32 31))) &&& 858993459)) + (UInt32.toInt32 (Int32.toUInt32 (((x0 - ((UInt32.toInt32 (Int32.toUInt32 x0 >>> (Int32.toUInt32 1 &&& Int32.toUInt32 31))) &&& 1431655765)) &&& 858993459) + ((UInt32.toInt32 (Int32.toUInt32 (x0 - ((UInt32.toInt32 (Int32.toUInt32 x0 >>> (Int32.toUInt32 1 &&& Int32.toUInt32 31))) &&& 1431655765)) >>> (Int32.toUInt32 2 &&& Int32.toUInt32 31))) &&& 858993459)) >>> (Int32.toUInt32 4 &&& Int32.toUInt32 31)))) &&& 252645135) >>> (Int32.toUInt32 8 &&& Int32.toUInt32 31)))) >>> (Int32.toUInt32 16 &&& Int32.toUInt32 31)))) &&& 63))) (N, am_ts T, I, L, am_rs r)) from ?_)
  exact ⟨trivial, hq⟩
/-- KeyKeepers.settleOrRefuse(I)I -/
def f_118 (x0 : Int32) (I : Nat → Nat → Int32) (L : Nat → Nat → Int64) : Int32 × (Nat → Nat → Int32) × (Nat → Nat → Int64) :=
  if (0 : Int32) ≤ x0 then
    let q0 := f_16 x0 I L;
    (q0.1, q0.2.1, q0.2.2)
  else
    let q1 := f_14 x0 I L;
    (q1.1, q1.2.1, q1.2.2)
def p_118 (x0 : Int32) (I : Nat → Nat → Int32) (L : Nat → Nat → Int64) : Prop :=
  if (0 : Int32) ≤ x0 then
    True
  else
    p_14 x0 I L
set_option maxRecDepth 100000 in
theorem s_118 {S : am_S} {d N : Nat} {T : Nat → Nat × Nat} {I : Nat → Nat → Int32} {L : Nat → Nat → Int64} {r : Nat → Nat → Option Nat} {Q : am_Q} {x0 : Int32} (hp : p_118 x0 I L) (hq : Q (some (.int (f_118 x0 I L).1)) (N, am_ts T, (f_118 x0 I L).2.1, (f_118 x0 I L).2.2, am_rs r)) : am_E S 118 (d + 1) 0 0 0 [.ref 0, .int x0] [] (N, am_ts T, I, L, am_rs r) Q := by
  unfold f_118 at hq
  unfold p_118 at hp
  try dsimp only at hq hp
  refine am_E.run [6, 14] 2000 (show (if (0 : Int32) ≤ x0 then (am_E S 118 (d + 1) 0 0 14 [.ref 0, .int x0] [.int x0, .ref 0] (N, am_ts T, I, L, am_rs r) Q) else (am_E S 118 (d + 1) 0 0 6 [.ref 0, .int x0] [.int x0, .ref 0] (N, am_ts T, I, L, am_rs r) Q)) from ?_)
  by_cases hc : (0 : Int32) ≤ x0
  · rw [if_pos hc] at hq hp ⊢
    refine am_E.go ⟨fun v h9 => v = some (.int (f_16 x0 I L).1) ∧ h9 = (N, am_ts T, (f_16 x0 I L).2.1, (f_16 x0 I L).2.2, am_rs r), s_16 ⟨rfl, rfl⟩, ?_⟩
    intro v h9 hv
    obtain ⟨rfl, rfl⟩ := hv
    generalize he_q0 : f_16 x0 I L = q0 at hq ⊢
    refine am_E.run [] 2000 (show (True ∧ Q (some (.int q0.1)) (N, am_ts T, q0.2.1, q0.2.2, am_rs r)) from ?_)
    exact ⟨trivial, hq⟩
  · rw [if_neg hc] at hq hp ⊢
    refine am_E.go ⟨fun v h9 => v = some (.int (f_14 x0 I L).1) ∧ h9 = (N, am_ts T, (f_14 x0 I L).2.1, (f_14 x0 I L).2.2, am_rs r), s_14 hp ⟨rfl, rfl⟩, ?_⟩
    intro v h9 hv
    obtain ⟨rfl, rfl⟩ := hv
    generalize he_q1 : f_14 x0 I L = q1 at hq ⊢
    refine am_E.run [] 2000 (show (True ∧ Q (some (.int q1.1)) (N, am_ts T, q1.2.1, q1.2.2, am_rs r)) from ?_)
    exact ⟨trivial, hq⟩
/-- KeyKeepers$Rota.oneShare(I)I -/
def f_137 (x0 : Int32) : Int32 :=
  (1 <<< ((3 * x0) &&& 31))
set_option maxRecDepth 100000 in
theorem s_137 {S : am_S} {d N : Nat} {T : Nat → Nat × Nat} {I : Nat → Nat → Int32} {L : Nat → Nat → Int64} {r : Nat → Nat → Option Nat} {Q : am_Q} {x0 : Int32} (hq : Q (some (.int (f_137 x0))) (N, am_ts T, I, L, am_rs r)) : am_E S 137 (d + 0) 0 0 0 [.int x0] [] (N, am_ts T, I, L, am_rs r) Q := by
  unfold f_137 at hq
  try dsimp only at hq
  refine am_E.run [] 2000 (show (True ∧ Q (some (.int (1 <<< ((3 * x0) &&& 31)))) (N, am_ts T, I, L, am_rs r)) from ?_)
  exact ⟨trivial, hq⟩
/-- KeyKeepers$Doors.trustEachOther(LKeyKeepers$Prison;II)Z -/
def f_149 (x1 : Int32) (x2 : Int32) (I : Nat → Nat → Int32) : Int32 :=
  let q0 := f_20 (I 8 (Int32.toNatClampNeg x1)) x2;
  if q0 = 1 then
    let q1 := f_20 (I 8 (Int32.toNatClampNeg x2)) x1;
    if q1 = 1 then
      1
    else
      0
  else
    0
def p_149 (x1 : Int32) (x2 : Int32) (I : Nat → Nat → Int32) : Prop :=
  ¬ (x1 < 0 ∨ 8 ≤ Int32.toNatClampNeg x1) ∧
  (let q0 := f_20 (I 8 (Int32.toNatClampNeg x1)) x2;
    if q0 = 1 then
      ¬ (x2 < 0 ∨ 8 ≤ Int32.toNatClampNeg x2) ∧
      True
    else
      True)
set_option maxRecDepth 100000 in
theorem s_149 {S : am_S} {d N : Nat} {T : Nat → Nat × Nat} {I : Nat → Nat → Int32} {L : Nat → Nat → Int64} {r : Nat → Nat → Option Nat} {Q : am_Q} {x1 : Int32} {x2 : Int32} (hp : p_149 x1 x2 I) (hq : Q (some (.int (f_149 x1 x2 I))) (N, am_ts T, I, L, am_rs r)) : am_E S 149 (d + 1) 0 0 0 [.ref 1, .int x1, .int x2] [] (N, am_ts T, I, L, am_rs r) Q := by
  unfold f_149 at hq
  unfold p_149 at hp
  try dsimp only at hq hp
  refine am_E.run [7] 2000 (show (if x1 < 0 ∨ 8 ≤ Int32.toNatClampNeg x1 then False else (am_E S 149 (d + 1) 0 0 7 [.ref 1, .int x1, .int x2] [.int x2, .int (I 8 (Int32.toNatClampNeg x1))] (N, am_ts T, I, L, am_rs r) Q)) from ?_)
  rw [if_neg hp.1]
  replace hp := hp.2
  refine am_E.go ⟨fun v h9 => v = some (.int (f_20 (I 8 (Int32.toNatClampNeg x1)) x2)) ∧ h9 = (N, am_ts T, I, L, am_rs r), s_20 ⟨rfl, rfl⟩, ?_⟩
  intro v h9 hv
  obtain ⟨rfl, rfl⟩ := hv
  generalize he_q0 : f_20 (I 8 (Int32.toNatClampNeg x1)) x2 = q0 at hq hp ⊢
  refine am_E.run [21] 2000 (show (if q0 = 1 then (if x2 < 0 ∨ 8 ≤ Int32.toNatClampNeg x2 then False else (am_E S 149 (d + 1) 0 0 21 [.ref 1, .int x1, .int x2] [.int x1, .int (I 8 (Int32.toNatClampNeg x2))] (N, am_ts T, I, L, am_rs r) Q)) else (((0 : Int32) = 0 ∨ (0 : Int32) = 1) ∧ Q (some (.int 0)) (N, am_ts T, I, L, am_rs r))) from ?_)
  by_cases hc : q0 = 1
  · rw [if_pos hc] at hq hp ⊢
    rw [if_neg hp.1]
    replace hp := hp.2
    refine am_E.go ⟨fun v h9 => v = some (.int (f_20 (I 8 (Int32.toNatClampNeg x2)) x1)) ∧ h9 = (N, am_ts T, I, L, am_rs r), s_20 ⟨rfl, rfl⟩, ?_⟩
    intro v h9 hv
    obtain ⟨rfl, rfl⟩ := hv
    generalize he_q1 : f_20 (I 8 (Int32.toNatClampNeg x2)) x1 = q1 at hq ⊢
    refine am_E.run [] 2000 (show (if q1 = 1 then (((1 : Int32) = 0 ∨ (1 : Int32) = 1) ∧ Q (some (.int 1)) (N, am_ts T, I, L, am_rs r)) else (((0 : Int32) = 0 ∨ (0 : Int32) = 1) ∧ Q (some (.int 0)) (N, am_ts T, I, L, am_rs r))) from ?_)
    by_cases hc : q1 = 1
    · rw [if_pos hc] at hq ⊢
      exact ⟨Or.inr rfl, hq⟩
    · rw [if_neg hc] at hq ⊢
      exact ⟨Or.inl rfl, hq⟩
  · rw [if_neg hc] at hq hp ⊢
    exact ⟨Or.inl rfl, hq⟩
/-- KeyKeepers$Prison.everybody()I -/
def f_153 (I : Nat → Nat → Int32) : Int32 :=
  ((1 <<< ((I 1 10) &&& 31)) - 1)
set_option maxRecDepth 100000 in
theorem s_153 {S : am_S} {d N : Nat} {T : Nat → Nat × Nat} {I : Nat → Nat → Int32} {L : Nat → Nat → Int64} {r : Nat → Nat → Option Nat} {Q : am_Q} (hq : Q (some (.int (f_153 I))) (N, am_ts T, I, L, am_rs r)) : am_E S 153 (d + 0) 0 0 0 [.ref 1] [] (N, am_ts T, I, L, am_rs r) Q := by
  unfold f_153 at hq
  try dsimp only at hq
  refine am_E.run [] 2000 (show (True ∧ Q (some (.int ((1 <<< ((I 1 10) &&& 31)) - 1))) (N, am_ts T, I, L, am_rs r)) from ?_)
  exact ⟨trivial, hq⟩
/-- KeyKeepers$Prison.addCount(II)I -/
def f_154 (x0 : Int32) (x1 : Int32) (I : Nat → Nat → Int32) (L : Nat → Nat → Int64) : Int32 × (Nat → Nat → Int32) × (Nat → Nat → Int64) :=
  if (I 1 13) < 8 then
    (((I 1 13) + 1), (am_u (am_u (am_u I 9 (Int32.toNatClampNeg (I 1 13)) x0) 10 (Int32.toNatClampNeg (I 1 13)) x1) 1 13 ((I 1 13) + 1)), L)
  else
    ((-1), I, L)
def p_154 (x0 : Int32) (x1 : Int32) (I : Nat → Nat → Int32) (L : Nat → Nat → Int64) : Prop :=
  if (I 1 13) < 8 then
    ¬ ((I 1 13) < 0 ∨ 8 ≤ Int32.toNatClampNeg (I 1 13)) ∧
    ¬ ((I 1 13) < 0 ∨ 8 ≤ Int32.toNatClampNeg (I 1 13)) ∧
    True
  else
    True
set_option maxRecDepth 100000 in
theorem s_154 {S : am_S} {d N : Nat} {T : Nat → Nat × Nat} {I : Nat → Nat → Int32} {L : Nat → Nat → Int64} {r : Nat → Nat → Option Nat} {Q : am_Q} {x0 : Int32} {x1 : Int32} (hp : p_154 x0 x1 I L) (hq : Q (some (.int (f_154 x0 x1 I L).1)) (N, am_ts T, (f_154 x0 x1 I L).2.1, (f_154 x0 x1 I L).2.2, am_rs r)) : am_E S 154 (d + 0) 0 0 0 [.ref 1, .int x0, .int x1] [] (N, am_ts T, I, L, am_rs r) Q := by
  unfold f_154 at hq
  unfold p_154 at hp
  try dsimp only at hq hp
  refine am_E.run [] 2000 (show (if (I 1 13) < 8 then (if (I 1 13) < 0 ∨ 8 ≤ Int32.toNatClampNeg (I 1 13) then False else (if (I 1 13) < 0 ∨ 8 ≤ Int32.toNatClampNeg (I 1 13) then False else (True ∧ Q (some (.int ((I 1 13) + 1))) (N, am_ts T, (am_u (am_u (am_u I 9 (Int32.toNatClampNeg (I 1 13)) x0) 10 (Int32.toNatClampNeg (I 1 13)) x1) 1 13 ((I 1 13) + 1)), L, am_rs r)))) else (True ∧ Q (some (.int (-1))) (N, am_ts T, I, L, am_rs r))) from ?_)
  by_cases hc : (I 1 13) < 8
  · rw [if_pos hc] at hq hp ⊢
    rw [if_neg hp.1]
    replace hp := hp.2
    rw [if_neg hp.1]
    replace hp := hp.2
    exact ⟨trivial, hq⟩
  · rw [if_neg hc] at hq hp ⊢
    exact ⟨trivial, hq⟩
/-- KeyKeepers.forget()I -/
def f_155 (I : Nat → Nat → Int32) (L : Nat → Nat → Int64) : Int32 × (Nat → Nat → Int32) × (Nat → Nat → Int64) :=
  ((I 1 13), (am_u I 1 13 0), L)
set_option maxRecDepth 100000 in
theorem s_155 {S : am_S} {d N : Nat} {T : Nat → Nat × Nat} {I : Nat → Nat → Int32} {L : Nat → Nat → Int64} {r : Nat → Nat → Option Nat} {Q : am_Q} (hq : Q (some (.int (f_155 I L).1)) (N, am_ts T, (f_155 I L).2.1, (f_155 I L).2.2, am_rs r)) : am_E S 155 (d + 0) 0 0 0 [.ref 0, am_jk] [] (N, am_ts T, I, L, am_rs r) Q := by
  unfold f_155 at hq
  try dsimp only at hq
  refine am_E.run [] 2000 (show (True ∧ Q (some (.int (I 1 13))) (N, am_ts T, (am_u I 1 13 0), L, am_rs r)) from ?_)
  exact ⟨trivial, hq⟩
/-- KeyKeepers$Nights.drawOf(I)I -/
def f_171 (x0 : Int32) (I : Nat → Nat → Int32) (L : Nat → Nat → Int64) : Int32 × (Nat → Nat → Int32) × (Nat → Nat → Int64) :=
  if x0 ≤ 0 then
    (0, (am_u I 63 3 ((((I 63 3) * 1103) + 12345) - (((I 63 3) * 1103) + 12345) / 1000003 * 1000003)), L)
  else
    ((((((I 63 3) * 1103) + 12345) - (((I 63 3) * 1103) + 12345) / 1000003 * 1000003) - ((((I 63 3) * 1103) + 12345) - (((I 63 3) * 1103) + 12345) / 1000003 * 1000003) / x0 * x0), (am_u I 63 3 ((((I 63 3) * 1103) + 12345) - (((I 63 3) * 1103) + 12345) / 1000003 * 1000003)), L)
def p_171 (x0 : Int32) (I : Nat → Nat → Int32) (L : Nat → Nat → Int64) : Prop :=
  if x0 ≤ 0 then
    True
  else
    ¬ (x0 = 0) ∧
    True
set_option maxRecDepth 100000 in
theorem s_171 {S : am_S} {d N : Nat} {T : Nat → Nat × Nat} {I : Nat → Nat → Int32} {L : Nat → Nat → Int64} {r : Nat → Nat → Option Nat} {Q : am_Q} {x0 : Int32} (hp : p_171 x0 I L) (hq : Q (some (.int (f_171 x0 I L).1)) (N, am_ts T, (f_171 x0 I L).2.1, (f_171 x0 I L).2.2, am_rs r)) : am_E S 171 (d + 0) 0 0 0 [.ref 63, .int x0] [] (N, am_ts T, I, L, am_rs r) Q := by
  unfold f_171 at hq
  unfold p_171 at hp
  try dsimp only at hq hp
  refine am_E.run [] 2000 (show (if x0 ≤ 0 then (True ∧ Q (some (.int 0)) (N, am_ts T, (am_u I 63 3 ((((I 63 3) * 1103) + 12345) - (((I 63 3) * 1103) + 12345) / 1000003 * 1000003)), L, am_rs r)) else (if x0 = 0 then False else (True ∧ Q (some (.int (((((I 63 3) * 1103) + 12345) - (((I 63 3) * 1103) + 12345) / 1000003 * 1000003) - ((((I 63 3) * 1103) + 12345) - (((I 63 3) * 1103) + 12345) / 1000003 * 1000003) / x0 * x0))) (N, am_ts T, (am_u I 63 3 ((((I 63 3) * 1103) + 12345) - (((I 63 3) * 1103) + 12345) / 1000003 * 1000003)), L, am_rs r)))) from ?_)
  by_cases hc : x0 ≤ 0
  · rw [if_pos hc] at hq hp ⊢
    exact ⟨trivial, hq⟩
  · rw [if_neg hc] at hq hp ⊢
    rw [if_neg hp.1]
    replace hp := hp.2
    exact ⟨trivial, hq⟩
/-- KeyKeepers.drawn(II)I -/
def f_172 (x0 : Int32) (x1 : Int32) (I : Nat → Nat → Int32) : Int32 :=
  if x1 = 0 then
    let q0 := f_13 x0 0 ((I 63 0) - 1);
    if q0 = 0 then
      (-1)
    else
      (I 64 (Int32.toNatClampNeg x0))
  else
    if x1 = 1 then
      if (I 63 0) ≤ 0 then
        (-1)
      else
        (I 63 1)
    else
      (-1)
def p_172 (x0 : Int32) (x1 : Int32) (I : Nat → Nat → Int32) : Prop :=
  if x1 = 0 then
    (let q0 := f_13 x0 0 ((I 63 0) - 1);
      if q0 = 0 then
        True
      else
        ¬ (x0 < 0 ∨ 8 ≤ Int32.toNatClampNeg x0) ∧
        True)
  else
    True
set_option maxRecDepth 100000 in
theorem s_172 {S : am_S} {d N : Nat} {T : Nat → Nat × Nat} {I : Nat → Nat → Int32} {L : Nat → Nat → Int64} {r : Nat → Nat → Option Nat} {Q : am_Q} {x0 : Int32} {x1 : Int32} (hp : p_172 x0 x1 I) (hq : Q (some (.int (f_172 x0 x1 I))) (N, am_ts T, I, L, am_rs r)) : am_E S 172 (d + 1) 0 0 0 [.ref 0, .int x0, .int x1] [] (N, am_ts T, I, L, am_rs r) Q := by
  unfold f_172 at hq
  unfold p_172 at hp
  try dsimp only at hq hp
  refine am_E.run [15] 2000 (show (if x1 = 0 then (am_E S 172 (d + 1) 0 0 15 [.ref 0, .int x0, .int x1] [.int ((I 63 0) - 1), .int 0, .int x0] (N, am_ts T, I, L, am_rs r) Q) else (if x1 = 1 then (if (I 63 0) ≤ 0 then (True ∧ Q (some (.int (-1))) (N, am_ts T, I, L, am_rs r)) else (True ∧ Q (some (.int (I 63 1))) (N, am_ts T, I, L, am_rs r))) else (True ∧ Q (some (.int (-1))) (N, am_ts T, I, L, am_rs r)))) from ?_)
  by_cases hc : x1 = 0
  · rw [if_pos hc] at hq hp ⊢
    refine am_E.go ⟨fun v h9 => v = some (.int (f_13 x0 0 ((I 63 0) - 1))) ∧ h9 = (N, am_ts T, I, L, am_rs r), s_13 ⟨rfl, rfl⟩, ?_⟩
    intro v h9 hv
    obtain ⟨rfl, rfl⟩ := hv
    generalize he_q0 : f_13 x0 0 ((I 63 0) - 1) = q0 at hq hp ⊢
    refine am_E.run [] 2000 (show (if q0 = 0 then (True ∧ Q (some (.int (-1))) (N, am_ts T, I, L, am_rs r)) else (if x0 < 0 ∨ 8 ≤ Int32.toNatClampNeg x0 then False else (True ∧ Q (some (.int (I 64 (Int32.toNatClampNeg x0)))) (N, am_ts T, I, L, am_rs r)))) from ?_)
    by_cases hc : q0 = 0
    · rw [if_pos hc] at hq hp ⊢
      exact ⟨trivial, hq⟩
    · rw [if_neg hc] at hq hp ⊢
      rw [if_neg hp.1]
      replace hp := hp.2
      exact ⟨trivial, hq⟩
  · rw [if_neg hc] at hq hp ⊢
    by_cases hc : x1 = 1
    · rw [if_pos hc] at hq ⊢
      by_cases hc : (I 63 0) ≤ 0
      · rw [if_pos hc] at hq ⊢
        exact ⟨trivial, hq⟩
      · rw [if_neg hc] at hq ⊢
        exact ⟨trivial, hq⟩
    · rw [if_neg hc] at hq ⊢
      exact ⟨trivial, hq⟩
/-- KeyKeepers.status()I -/
def f_176 (I : Nat → Nat → Int32) : Int32 :=
  (I 0 12)
set_option maxRecDepth 100000 in
theorem s_176 {S : am_S} {d N : Nat} {T : Nat → Nat × Nat} {I : Nat → Nat → Int32} {L : Nat → Nat → Int64} {r : Nat → Nat → Option Nat} {Q : am_Q} (hq : Q (some (.int (f_176 I))) (N, am_ts T, I, L, am_rs r)) : am_E S 176 (d + 0) 0 0 0 [.ref 0] [] (N, am_ts T, I, L, am_rs r) Q := by
  unfold f_176 at hq
  try dsimp only at hq
  refine am_E.run [] 2000 (show (True ∧ Q (some (.int (I 0 12))) (N, am_ts T, I, L, am_rs r)) from ?_)
  exact ⟨trivial, hq⟩
/-- KeyKeepersModel.tell(I)I -/
def f_179 (x0 : Int32) (I : Nat → Nat → Int32) (L : Nat → Nat → Int64) : Int32 × (Nat → Nat → Int32) × (Nat → Nat → Int64) :=
  if (0 : Int32) ≤ x0 then
    if (0 : Int32) ≤ x0 then
      (x0, (am_u I 66 1 0), L)
    else
      (x0, (am_u (am_u I 66 1 0) 67 (Int32.toNatClampNeg (-x0)) ((I 67 (Int32.toNatClampNeg (-x0))) + 1)), L)
  else
    if (0 : Int32) ≤ x0 then
      (x0, (am_u I 66 1 x0), L)
    else
      (x0, (am_u (am_u I 66 1 x0) 67 (Int32.toNatClampNeg (-x0)) ((I 67 (Int32.toNatClampNeg (-x0))) + 1)), L)
def p_179 (x0 : Int32) (I : Nat → Nat → Int32) (L : Nat → Nat → Int64) : Prop :=
  if (0 : Int32) ≤ x0 then
    if (0 : Int32) ≤ x0 then
      True
    else
      ¬ ((-x0) < 0 ∨ 7 ≤ Int32.toNatClampNeg (-x0)) ∧
      ¬ ((-x0) < 0 ∨ 7 ≤ Int32.toNatClampNeg (-x0)) ∧
      True
  else
    if (0 : Int32) ≤ x0 then
      True
    else
      ¬ ((-x0) < 0 ∨ 7 ≤ Int32.toNatClampNeg (-x0)) ∧
      ¬ ((-x0) < 0 ∨ 7 ≤ Int32.toNatClampNeg (-x0)) ∧
      True
set_option maxRecDepth 100000 in
theorem s_179 {S : am_S} {d N : Nat} {T : Nat → Nat × Nat} {I : Nat → Nat → Int32} {L : Nat → Nat → Int64} {r : Nat → Nat → Option Nat} {Q : am_Q} {x0 : Int32} (hp : p_179 x0 I L) (hq : Q (some (.int (f_179 x0 I L).1)) (N, am_ts T, (f_179 x0 I L).2.1, (f_179 x0 I L).2.2, am_rs r)) : am_E S 179 (d + 0) 0 0 0 [.ref 66, .int x0] [] (N, am_ts T, I, L, am_rs r) Q := by
  unfold f_179 at hq
  unfold p_179 at hp
  try dsimp only at hq hp
  refine am_E.run [] 2000 (show (if (0 : Int32) ≤ x0 then (if (0 : Int32) ≤ x0 then (True ∧ Q (some (.int x0)) (N, am_ts T, (am_u I 66 1 0), L, am_rs r)) else (if (-x0) < 0 ∨ 7 ≤ Int32.toNatClampNeg (-x0) then False else (if (-x0) < 0 ∨ 7 ≤ Int32.toNatClampNeg (-x0) then False else (True ∧ Q (some (.int x0)) (N, am_ts T, (am_u (am_u I 66 1 0) 67 (Int32.toNatClampNeg (-x0)) ((I 67 (Int32.toNatClampNeg (-x0))) + 1)), L, am_rs r))))) else (if (0 : Int32) ≤ x0 then (True ∧ Q (some (.int x0)) (N, am_ts T, (am_u I 66 1 x0), L, am_rs r)) else (if (-x0) < 0 ∨ 7 ≤ Int32.toNatClampNeg (-x0) then False else (if (-x0) < 0 ∨ 7 ≤ Int32.toNatClampNeg (-x0) then False else (True ∧ Q (some (.int x0)) (N, am_ts T, (am_u (am_u I 66 1 x0) 67 (Int32.toNatClampNeg (-x0)) ((I 67 (Int32.toNatClampNeg (-x0))) + 1)), L, am_rs r)))))) from ?_)
  by_cases hc : (0 : Int32) ≤ x0
  · rw [if_pos hc] at hq hp ⊢
    by_cases hc : (0 : Int32) ≤ x0
    · rw [if_pos hc] at hq hp ⊢
      exact ⟨trivial, hq⟩
    · rw [if_neg hc] at hq hp ⊢
      rw [if_neg hp.1]
      replace hp := hp.2
      rw [if_neg hp.1]
      replace hp := hp.2
      exact ⟨trivial, hq⟩
  · rw [if_neg hc] at hq hp ⊢
    by_cases hc : (0 : Int32) ≤ x0
    · rw [if_pos hc] at hq hp ⊢
      exact ⟨trivial, hq⟩
    · rw [if_neg hc] at hq hp ⊢
      rw [if_neg hp.1]
      replace hp := hp.2
      rw [if_neg hp.1]
      replace hp := hp.2
      exact ⟨trivial, hq⟩
/-- KeyKeepersModel.in(JJJ)Z -/
def f_182 (x0 : Int64) (x1 : Int64) (x2 : Int64) : Int32 :=
  if (lg_cmp x0 x1) < 0 then
    0
  else
    if (0 : Int32) < (lg_cmp x0 x2) then
      0
    else
      1
set_option maxRecDepth 100000 in
theorem s_182 {S : am_S} {d N : Nat} {T : Nat → Nat × Nat} {I : Nat → Nat → Int32} {L : Nat → Nat → Int64} {r : Nat → Nat → Option Nat} {Q : am_Q} {x0 : Int64} {x1 : Int64} {x2 : Int64} (hq : Q (some (.int (f_182 x0 x1 x2))) (N, am_ts T, I, L, am_rs r)) : am_E S 182 (d + 0) 0 0 0 [.long x0, am_jk, .long x1, am_jk, .long x2, am_jk] [] (N, am_ts T, I, L, am_rs r) Q := by
  unfold f_182 at hq
  try dsimp only at hq
  refine am_E.run [] 2000 (show (if (lg_cmp x0 x1) < 0 then (((0 : Int32) = 0 ∨ (0 : Int32) = 1) ∧ Q (some (.int 0)) (N, am_ts T, I, L, am_rs r)) else (if (0 : Int32) < (lg_cmp x0 x2) then (((0 : Int32) = 0 ∨ (0 : Int32) = 1) ∧ Q (some (.int 0)) (N, am_ts T, I, L, am_rs r)) else (((1 : Int32) = 0 ∨ (1 : Int32) = 1) ∧ Q (some (.int 1)) (N, am_ts T, I, L, am_rs r)))) from ?_)
  by_cases hc : (lg_cmp x0 x1) < 0
  · rw [if_pos hc] at hq ⊢
    exact ⟨Or.inl rfl, hq⟩
  · rw [if_neg hc] at hq ⊢
    by_cases hc : (0 : Int32) < (lg_cmp x0 x2)
    · rw [if_pos hc] at hq ⊢
      exact ⟨Or.inl rfl, hq⟩
    · rw [if_neg hc] at hq ⊢
      exact ⟨Or.inr rfl, hq⟩
/-- KeyKeepersModel.settled(I)I -/
def f_184 (x0 : Int32) (I : Nat → Nat → Int32) (L : Nat → Nat → Int64) : Int32 × (Nat → Nat → Int32) × (Nat → Nat → Int64) :=
  if (0 : Int32) ≤ x0 then
    let q0 := f_179 x0 (am_u I 66 8 0) L;
    (q0.1, q0.2.1, q0.2.2)
  else
    let q1 := f_179 x0 (am_u I 66 8 (I 66 8)) L;
    (q1.1, q1.2.1, q1.2.2)
def p_184 (x0 : Int32) (I : Nat → Nat → Int32) (L : Nat → Nat → Int64) : Prop :=
  if (0 : Int32) ≤ x0 then
    p_179 x0 (am_u I 66 8 0) L
  else
    p_179 x0 (am_u I 66 8 (I 66 8)) L
set_option maxRecDepth 100000 in
theorem s_184 {S : am_S} {d N : Nat} {T : Nat → Nat × Nat} {I : Nat → Nat → Int32} {L : Nat → Nat → Int64} {r : Nat → Nat → Option Nat} {Q : am_Q} {x0 : Int32} (hp : p_184 x0 I L) (hq : Q (some (.int (f_184 x0 I L).1)) (N, am_ts T, (f_184 x0 I L).2.1, (f_184 x0 I L).2.2, am_rs r)) : am_E S 184 (d + 1) 0 0 0 [.ref 66, .int x0] [] (N, am_ts T, I, L, am_rs r) Q := by
  unfold f_184 at hq
  unfold p_184 at hp
  try dsimp only at hq hp
  refine am_E.run [18] 2000 (show (if (0 : Int32) ≤ x0 then (am_E S 184 (d + 1) 0 0 18 [.ref 66, .int x0] [.int x0, .ref 66] (N, am_ts T, (am_u I 66 8 0), L, am_rs r) Q) else (am_E S 184 (d + 1) 0 0 18 [.ref 66, .int x0] [.int x0, .ref 66] (N, am_ts T, (am_u I 66 8 (I 66 8)), L, am_rs r) Q)) from ?_)
  by_cases hc : (0 : Int32) ≤ x0
  · rw [if_pos hc] at hq hp ⊢
    refine am_E.go ⟨fun v h9 => v = some (.int (f_179 x0 (am_u I 66 8 0) L).1) ∧ h9 = (N, am_ts T, (f_179 x0 (am_u I 66 8 0) L).2.1, (f_179 x0 (am_u I 66 8 0) L).2.2, am_rs r), s_179 hp ⟨rfl, rfl⟩, ?_⟩
    intro v h9 hv
    obtain ⟨rfl, rfl⟩ := hv
    generalize he_q0 : f_179 x0 (am_u I 66 8 0) L = q0 at hq ⊢
    refine am_E.run [] 2000 (show (True ∧ Q (some (.int q0.1)) (N, am_ts T, q0.2.1, q0.2.2, am_rs r)) from ?_)
    exact ⟨trivial, hq⟩
  · rw [if_neg hc] at hq hp ⊢
    refine am_E.go ⟨fun v h9 => v = some (.int (f_179 x0 (am_u I 66 8 (I 66 8)) L).1) ∧ h9 = (N, am_ts T, (f_179 x0 (am_u I 66 8 (I 66 8)) L).2.1, (f_179 x0 (am_u I 66 8 (I 66 8)) L).2.2, am_rs r), s_179 hp ⟨rfl, rfl⟩, ?_⟩
    intro v h9 hv
    obtain ⟨rfl, rfl⟩ := hv
    generalize he_q1 : f_179 x0 (am_u I 66 8 (I 66 8)) L = q1 at hq ⊢
    refine am_E.run [] 2000 (show (True ∧ Q (some (.int q1.1)) (N, am_ts T, q1.2.1, q1.2.2, am_rs r)) from ?_)
    exact ⟨trivial, hq⟩
/-- KeyKeepersModel.door(II)I -/
def f_185 (x0 : Int32) (x1 : Int32) (I : Nat → Nat → Int32) (L : Nat → Nat → Int64) : Int32 × (Nat → Nat → Int32) × (Nat → Nat → Int64) :=
  let q0 := f_182 (Int32.toInt64 x0) 0 9;
  if q0 = 0 then
    let q1 := f_179 (-1) (am_u I 66 0 0) L;
    (q1.1, q1.2.1, q1.2.2)
  else
    let q2 := f_182 (Int32.toInt64 x1) 0 9;
    if q2 = 0 then
      let q3 := f_179 (-1) (am_u I 66 0 0) L;
      (q3.1, q3.2.1, q3.2.2)
    else
      if x0 = x1 then
        let q6 := f_179 (-1) (am_u I 66 0 0) L;
        (q6.1, q6.2.1, q6.2.2)
      else
        if (I 68 0) = 12 then
          let q5 := f_179 (-5) (am_u I 66 0 0) L;
          (q5.1, q5.2.1, q5.2.2)
        else
          let q4 := f_179 (I 68 0) (am_u (am_u (am_u (am_u (am_u I 66 0 0) 68 (Int32.toNatClampNeg (58 + (3 * (I 68 0)))) x0) 68 (Int32.toNatClampNeg ((58 + (3 * (I 68 0))) + 1)) x1) 68 (Int32.toNatClampNeg ((58 + (3 * (I 68 0))) + 2)) 0) 68 0 (((am_u (am_u (am_u (am_u I 66 0 0) 68 (Int32.toNatClampNeg (58 + (3 * (I 68 0)))) x0) 68 (Int32.toNatClampNeg ((58 + (3 * (I 68 0))) + 1)) x1) 68 (Int32.toNatClampNeg ((58 + (3 * (I 68 0))) + 2)) 0) 68 0) + 1)) L;
          (q4.1, q4.2.1, q4.2.2)
def p_185 (x0 : Int32) (x1 : Int32) (I : Nat → Nat → Int32) (L : Nat → Nat → Int64) : Prop :=
  (let q0 := f_182 (Int32.toInt64 x0) 0 9;
    if q0 = 0 then
      p_179 (-1) (am_u I 66 0 0) L
    else
      (let q2 := f_182 (Int32.toInt64 x1) 0 9;
        if q2 = 0 then
          p_179 (-1) (am_u I 66 0 0) L
        else
          if x0 = x1 then
            p_179 (-1) (am_u I 66 0 0) L
          else
            if (I 68 0) = 12 then
              p_179 (-5) (am_u I 66 0 0) L
            else
              ¬ ((58 + (3 * (I 68 0))) < 0 ∨ 5510 ≤ Int32.toNatClampNeg (58 + (3 * (I 68 0)))) ∧
              ¬ (((58 + (3 * (I 68 0))) + 1) < 0 ∨ 5510 ≤ Int32.toNatClampNeg ((58 + (3 * (I 68 0))) + 1)) ∧
              ¬ (((58 + (3 * (I 68 0))) + 2) < 0 ∨ 5510 ≤ Int32.toNatClampNeg ((58 + (3 * (I 68 0))) + 2)) ∧
              p_179 (I 68 0) (am_u (am_u (am_u (am_u (am_u I 66 0 0) 68 (Int32.toNatClampNeg (58 + (3 * (I 68 0)))) x0) 68 (Int32.toNatClampNeg ((58 + (3 * (I 68 0))) + 1)) x1) 68 (Int32.toNatClampNeg ((58 + (3 * (I 68 0))) + 2)) 0) 68 0 (((am_u (am_u (am_u (am_u I 66 0 0) 68 (Int32.toNatClampNeg (58 + (3 * (I 68 0)))) x0) 68 (Int32.toNatClampNeg ((58 + (3 * (I 68 0))) + 1)) x1) 68 (Int32.toNatClampNeg ((58 + (3 * (I 68 0))) + 2)) 0) 68 0) + 1)) L))
set_option maxRecDepth 100000 in
theorem s_185 {S : am_S} {d N : Nat} {T : Nat → Nat × Nat} {I : Nat → Nat → Int32} {L : Nat → Nat → Int64} {r : Nat → Nat → Option Nat} {Q : am_Q} {x0 : Int32} {x1 : Int32} (hp : p_185 x0 x1 I L) (hq : Q (some (.int (f_185 x0 x1 I L).1)) (N, am_ts T, (f_185 x0 x1 I L).2.1, (f_185 x0 x1 I L).2.2, am_rs r)) : am_E S 185 (d + 1) 0 0 0 [.ref 66, .int x0, .int x1, am_jk, am_jk] [] (N, am_ts T, I, L, am_rs r) Q := by
  unfold f_185 at hq
  unfold p_185 at hp
  try dsimp only at hq hp
  refine am_E.run [11] 2000 (show (am_E S 185 (d + 1) 0 0 11 [.ref 66, .int x0, .int x1, am_jk, am_jk] [.long 9, .long 0, .long (Int32.toInt64 x0)] (N, am_ts T, (am_u I 66 0 0), L, am_rs r) Q) from ?_)
  refine am_E.go ⟨fun v h9 => v = some (.int (f_182 (Int32.toInt64 x0) 0 9)) ∧ h9 = (N, am_ts T, (am_u I 66 0 0), L, am_rs r), s_182 ⟨rfl, rfl⟩, ?_⟩
  intro v h9 hv
  obtain ⟨rfl, rfl⟩ := hv
  generalize he_q0 : f_182 (Int32.toInt64 x0) 0 9 = q0 at hq hp ⊢
  refine am_E.run [23, 36] 2000 (show (if q0 = 0 then (am_E S 185 (d + 1) 0 0 36 [.ref 66, .int x0, .int x1, am_jk, am_jk] [.int (-1), .ref 66] (N, am_ts T, (am_u I 66 0 0), L, am_rs r) Q) else (am_E S 185 (d + 1) 0 0 23 [.ref 66, .int x0, .int x1, am_jk, am_jk] [.long 9, .long 0, .long (Int32.toInt64 x1)] (N, am_ts T, (am_u I 66 0 0), L, am_rs r) Q)) from ?_)
  by_cases hc : q0 = 0
  · rw [if_pos hc] at hq hp ⊢
    refine am_E.go ⟨fun v h9 => v = some (.int (f_179 (-1) (am_u I 66 0 0) L).1) ∧ h9 = (N, am_ts T, (f_179 (-1) (am_u I 66 0 0) L).2.1, (f_179 (-1) (am_u I 66 0 0) L).2.2, am_rs r), s_179 hp ⟨rfl, rfl⟩, ?_⟩
    intro v h9 hv
    obtain ⟨rfl, rfl⟩ := hv
    generalize he_q1 : f_179 (-1) (am_u I 66 0 0) L = q1 at hq ⊢
    refine am_E.run [] 2000 (show (True ∧ Q (some (.int q1.1)) (N, am_ts T, q1.2.1, q1.2.2, am_rs r)) from ?_)
    exact ⟨trivial, hq⟩
  · rw [if_neg hc] at hq hp ⊢
    refine am_E.go ⟨fun v h9 => v = some (.int (f_182 (Int32.toInt64 x1) 0 9)) ∧ h9 = (N, am_ts T, (am_u I 66 0 0), L, am_rs r), s_182 ⟨rfl, rfl⟩, ?_⟩
    intro v h9 hv
    obtain ⟨rfl, rfl⟩ := hv
    generalize he_q2 : f_182 (Int32.toInt64 x1) 0 9 = q2 at hq hp ⊢
    refine am_E.run [36, 56, 108] 2000 (show (if q2 = 0 then (am_E S 185 (d + 1) 0 0 36 [.ref 66, .int x0, .int x1, am_jk, am_jk] [.int (-1), .ref 66] (N, am_ts T, (am_u I 66 0 0), L, am_rs r) Q) else (if x0 = x1 then (am_E S 185 (d + 1) 0 0 36 [.ref 66, .int x0, .int x1, am_jk, am_jk] [.int (-1), .ref 66] (N, am_ts T, (am_u I 66 0 0), L, am_rs r) Q) else (if (I 68 0) = 12 then (am_E S 185 (d + 1) 0 0 56 [.ref 66, .int x0, .int x1, .int (I 68 0), am_jk] [.int (-5), .ref 66] (N, am_ts T, (am_u I 66 0 0), L, am_rs r) Q) else (if (58 + (3 * (I 68 0))) < 0 ∨ 5510 ≤ Int32.toNatClampNeg (58 + (3 * (I 68 0))) then False else (if ((58 + (3 * (I 68 0))) + 1) < 0 ∨ 5510 ≤ Int32.toNatClampNeg ((58 + (3 * (I 68 0))) + 1) then False else (if ((58 + (3 * (I 68 0))) + 2) < 0 ∨ 5510 ≤ Int32.toNatClampNeg ((58 + (3 * (I 68 0))) + 2) then False else (am_E S 185 (d + 1) 0 0 108 [.ref 66, .int x0, .int x1, .int (I 68 0), .int (58 + (3 * (I 68 0)))] [.int (I 68 0), .ref 66] (N, am_ts T, (am_u (am_u (am_u (am_u (am_u I 66 0 0) 68 (Int32.toNatClampNeg (58 + (3 * (I 68 0)))) x0) 68 (Int32.toNatClampNeg ((58 + (3 * (I 68 0))) + 1)) x1) 68 (Int32.toNatClampNeg ((58 + (3 * (I 68 0))) + 2)) 0) 68 0 (((am_u (am_u (am_u (am_u I 66 0 0) 68 (Int32.toNatClampNeg (58 + (3 * (I 68 0)))) x0) 68 (Int32.toNatClampNeg ((58 + (3 * (I 68 0))) + 1)) x1) 68 (Int32.toNatClampNeg ((58 + (3 * (I 68 0))) + 2)) 0) 68 0) + 1)), L, am_rs r) Q))))))) from ?_)
    by_cases hc : q2 = 0
    · rw [if_pos hc] at hq hp ⊢
      refine am_E.go ⟨fun v h9 => v = some (.int (f_179 (-1) (am_u I 66 0 0) L).1) ∧ h9 = (N, am_ts T, (f_179 (-1) (am_u I 66 0 0) L).2.1, (f_179 (-1) (am_u I 66 0 0) L).2.2, am_rs r), s_179 hp ⟨rfl, rfl⟩, ?_⟩
      intro v h9 hv
      obtain ⟨rfl, rfl⟩ := hv
      generalize he_q3 : f_179 (-1) (am_u I 66 0 0) L = q3 at hq ⊢
      refine am_E.run [] 2000 (show (True ∧ Q (some (.int q3.1)) (N, am_ts T, q3.2.1, q3.2.2, am_rs r)) from ?_)
      exact ⟨trivial, hq⟩
    · rw [if_neg hc] at hq hp ⊢
      by_cases hc : x0 = x1
      · rw [if_pos hc] at hq hp ⊢
        refine am_E.go ⟨fun v h9 => v = some (.int (f_179 (-1) (am_u I 66 0 0) L).1) ∧ h9 = (N, am_ts T, (f_179 (-1) (am_u I 66 0 0) L).2.1, (f_179 (-1) (am_u I 66 0 0) L).2.2, am_rs r), s_179 hp ⟨rfl, rfl⟩, ?_⟩
        intro v h9 hv
        obtain ⟨rfl, rfl⟩ := hv
        generalize he_q6 : f_179 (-1) (am_u I 66 0 0) L = q6 at hq ⊢
        refine am_E.run [] 2000 (show (True ∧ Q (some (.int q6.1)) (N, am_ts T, q6.2.1, q6.2.2, am_rs r)) from ?_)
        exact ⟨trivial, hq⟩
      · rw [if_neg hc] at hq hp ⊢
        by_cases hc : (I 68 0) = 12
        · rw [if_pos hc] at hq hp ⊢
          refine am_E.go ⟨fun v h9 => v = some (.int (f_179 (-5) (am_u I 66 0 0) L).1) ∧ h9 = (N, am_ts T, (f_179 (-5) (am_u I 66 0 0) L).2.1, (f_179 (-5) (am_u I 66 0 0) L).2.2, am_rs r), s_179 hp ⟨rfl, rfl⟩, ?_⟩
          intro v h9 hv
          obtain ⟨rfl, rfl⟩ := hv
          generalize he_q5 : f_179 (-5) (am_u I 66 0 0) L = q5 at hq ⊢
          refine am_E.run [] 2000 (show (True ∧ Q (some (.int q5.1)) (N, am_ts T, q5.2.1, q5.2.2, am_rs r)) from ?_)
          exact ⟨trivial, hq⟩
        · rw [if_neg hc] at hq hp ⊢
          rw [if_neg hp.1]
          replace hp := hp.2
          rw [if_neg hp.1]
          replace hp := hp.2
          rw [if_neg hp.1]
          replace hp := hp.2
          refine am_E.go ⟨fun v h9 => v = some (.int (f_179 (I 68 0) (am_u (am_u (am_u (am_u (am_u I 66 0 0) 68 (Int32.toNatClampNeg (58 + (3 * (I 68 0)))) x0) 68 (Int32.toNatClampNeg ((58 + (3 * (I 68 0))) + 1)) x1) 68 (Int32.toNatClampNeg ((58 + (3 * (I 68 0))) + 2)) 0) 68 0 (((am_u (am_u (am_u (am_u I 66 0 0) 68 (Int32.toNatClampNeg (58 + (3 * (I 68 0)))) x0) 68 (Int32.toNatClampNeg ((58 + (3 * (I 68 0))) + 1)) x1) 68 (Int32.toNatClampNeg ((58 + (3 * (I 68 0))) + 2)) 0) 68 0) + 1)) L).1) ∧ h9 = (N, am_ts T, (f_179 (I 68 0) (am_u (am_u (am_u (am_u (am_u I 66 0 0) 68 (Int32.toNatClampNeg (58 + (3 * (I 68 0)))) x0) 68 (Int32.toNatClampNeg ((58 + (3 * (I 68 0))) + 1)) x1) 68 (Int32.toNatClampNeg ((58 + (3 * (I 68 0))) + 2)) 0) 68 0 (((am_u (am_u (am_u (am_u I 66 0 0) 68 (Int32.toNatClampNeg (58 + (3 * (I 68 0)))) x0) 68 (Int32.toNatClampNeg ((58 + (3 * (I 68 0))) + 1)) x1) 68 (Int32.toNatClampNeg ((58 + (3 * (I 68 0))) + 2)) 0) 68 0) + 1)) L).2.1, (f_179 (I 68 0) (am_u (am_u (am_u (am_u (am_u I 66 0 0) 68 (Int32.toNatClampNeg (58 + (3 * (I 68 0)))) x0) 68 (Int32.toNatClampNeg ((58 + (3 * (I 68 0))) + 1)) x1) 68 (Int32.toNatClampNeg ((58 + (3 * (I 68 0))) + 2)) 0) 68 0 (((am_u (am_u (am_u (am_u I 66 0 0) 68 (Int32.toNatClampNeg (58 + (3 * (I 68 0)))) x0) 68 (Int32.toNatClampNeg ((58 + (3 * (I 68 0))) + 1)) x1) 68 (Int32.toNatClampNeg ((58 + (3 * (I 68 0))) + 2)) 0) 68 0) + 1)) L).2.2, am_rs r), s_179 hp ⟨rfl, rfl⟩, ?_⟩
          intro v h9 hv
          obtain ⟨rfl, rfl⟩ := hv
          generalize he_q4 : f_179 (I 68 0) (am_u (am_u (am_u (am_u (am_u I 66 0 0) 68 (Int32.toNatClampNeg (58 + (3 * (I 68 0)))) x0) 68 (Int32.toNatClampNeg ((58 + (3 * (I 68 0))) + 1)) x1) 68 (Int32.toNatClampNeg ((58 + (3 * (I 68 0))) + 2)) 0) 68 0 (((am_u (am_u (am_u (am_u I 66 0 0) 68 (Int32.toNatClampNeg (58 + (3 * (I 68 0)))) x0) 68 (Int32.toNatClampNeg ((58 + (3 * (I 68 0))) + 1)) x1) 68 (Int32.toNatClampNeg ((58 + (3 * (I 68 0))) + 2)) 0) 68 0) + 1)) L = q4 at hq ⊢
          refine am_E.run [] 2000 (show (True ∧ Q (some (.int q4.1)) (N, am_ts T, q4.2.1, q4.2.2, am_rs r)) from ?_)
          exact ⟨trivial, hq⟩
/-- KeyKeepersModel.isDoor(I)Z -/
def f_187 (x0 : Int32) (I : Nat → Nat → Int32) : Int32 :=
  let q0 := f_182 (Int32.toInt64 x0) 0 ((Int32.toInt64 (I 68 0)) - 1);
  q0
def p_187 (x0 : Int32) (I : Nat → Nat → Int32) : Prop :=
  (let q0 := f_182 (Int32.toInt64 x0) 0 ((Int32.toInt64 (I 68 0)) - 1);
    q0 = 0 ∨ q0 = 1)
set_option maxRecDepth 100000 in
theorem s_187 {S : am_S} {d N : Nat} {T : Nat → Nat × Nat} {I : Nat → Nat → Int32} {L : Nat → Nat → Int64} {r : Nat → Nat → Option Nat} {Q : am_Q} {x0 : Int32} (hp : p_187 x0 I) (hq : Q (some (.int (f_187 x0 I))) (N, am_ts T, I, L, am_rs r)) : am_E S 187 (d + 1) 0 0 0 [.ref 66, .int x0] [] (N, am_ts T, I, L, am_rs r) Q := by
  unfold f_187 at hq
  unfold p_187 at hp
  try dsimp only at hq hp
  refine am_E.run [12] 2000 (show (am_E S 187 (d + 1) 0 0 12 [.ref 66, .int x0] [.long ((Int32.toInt64 (I 68 0)) - 1), .long 0, .long (Int32.toInt64 x0)] (N, am_ts T, I, L, am_rs r) Q) from ?_)
  refine am_E.go ⟨fun v h9 => v = some (.int (f_182 (Int32.toInt64 x0) 0 ((Int32.toInt64 (I 68 0)) - 1))) ∧ h9 = (N, am_ts T, I, L, am_rs r), s_182 ⟨rfl, rfl⟩, ?_⟩
  intro v h9 hv
  obtain ⟨rfl, rfl⟩ := hv
  generalize he_q0 : f_182 (Int32.toInt64 x0) 0 ((Int32.toInt64 (I 68 0)) - 1) = q0 at hq hp ⊢
  refine am_E.run [] 2000 (show ((q0 = 0 ∨ q0 = 1) ∧ Q (some (.int q0)) (N, am_ts T, I, L, am_rs r)) from ?_)
  exact ⟨hp, hq⟩
/-- KeyKeepersModel.change(II)I -/
def f_188 (x0 : Int32) (x1 : Int32) (I : Nat → Nat → Int32) (L : Nat → Nat → Int64) : Int32 × (Nat → Nat → Int32) × (Nat → Nat → Int64) :=
  ((I 68 (Int32.toNatClampNeg x0)), (am_u (am_u I 68 (Int32.toNatClampNeg x0) x1) 66 1 0), L)
def p_188 (x0 : Int32) (x1 : Int32) (I : Nat → Nat → Int32) (L : Nat → Nat → Int64) : Prop :=
  ¬ (x0 < 0 ∨ 5510 ≤ Int32.toNatClampNeg x0) ∧
  ¬ (x0 < 0 ∨ 5510 ≤ Int32.toNatClampNeg x0) ∧
  True
set_option maxRecDepth 100000 in
theorem s_188 {S : am_S} {d N : Nat} {T : Nat → Nat × Nat} {I : Nat → Nat → Int32} {L : Nat → Nat → Int64} {r : Nat → Nat → Option Nat} {Q : am_Q} {x0 : Int32} {x1 : Int32} (hp : p_188 x0 x1 I L) (hq : Q (some (.int (f_188 x0 x1 I L).1)) (N, am_ts T, (f_188 x0 x1 I L).2.1, (f_188 x0 x1 I L).2.2, am_rs r)) : am_E S 188 (d + 0) 0 0 0 [.ref 66, .int x0, .int x1, am_jk] [] (N, am_ts T, I, L, am_rs r) Q := by
  unfold f_188 at hq
  unfold p_188 at hp
  try dsimp only at hq hp
  refine am_E.run [] 2000 (show (if x0 < 0 ∨ 5510 ≤ Int32.toNatClampNeg x0 then False else (if x0 < 0 ∨ 5510 ≤ Int32.toNatClampNeg x0 then False else (True ∧ Q (some (.int (I 68 (Int32.toNatClampNeg x0)))) (N, am_ts T, (am_u (am_u I 68 (Int32.toNatClampNeg x0) x1) 66 1 0), L, am_rs r)))) from ?_)
  rw [if_neg hp.1]
  replace hp := hp.2
  rw [if_neg hp.1]
  replace hp := hp.2
  exact ⟨trivial, hq⟩
/-- KeyKeepersModel.prisoner1(III)I -/
def f_190 (x0 : Int32) (x1 : Int32) (x2 : Int32) (I : Nat → Nat → Int32) (L : Nat → Nat → Int64) : Int32 × (Nat → Nat → Int32) × (Nat → Nat → Int64) :=
  let q0 := f_182 (Int32.toInt64 x0) 1 99;
  if q0 = 0 then
    ((-1), I, L)
  else
    let q1 := f_182 (Int32.toInt64 x1) 0 9;
    if q1 = 0 then
      ((-1), I, L)
    else
      let q2 := f_182 (Int32.toInt64 x2) 1 9;
      if q2 = 0 then
        ((-1), I, L)
      else
        if (I 68 1) = 8 then
          ((-5), I, L)
        else
          ((I 68 1), (am_u (am_u (am_u (am_u (am_u (am_u (am_u I 68 (Int32.toNatClampNeg (26 + (I 68 1))) x0) 68 (Int32.toNatClampNeg (34 + (I 68 1))) x1) 68 (Int32.toNatClampNeg (10 + (I 68 1))) x2) 68 (Int32.toNatClampNeg (18 + (I 68 1))) 0) 68 (Int32.toNatClampNeg (42 + (I 68 1))) 0) 68 (Int32.toNatClampNeg (50 + (I 68 1))) 0) 68 1 (((am_u (am_u (am_u (am_u (am_u (am_u I 68 (Int32.toNatClampNeg (26 + (I 68 1))) x0) 68 (Int32.toNatClampNeg (34 + (I 68 1))) x1) 68 (Int32.toNatClampNeg (10 + (I 68 1))) x2) 68 (Int32.toNatClampNeg (18 + (I 68 1))) 0) 68 (Int32.toNatClampNeg (42 + (I 68 1))) 0) 68 (Int32.toNatClampNeg (50 + (I 68 1))) 0) 68 1) + 1)), L)
def p_190 (x0 : Int32) (x1 : Int32) (x2 : Int32) (I : Nat → Nat → Int32) (L : Nat → Nat → Int64) : Prop :=
  (let q0 := f_182 (Int32.toInt64 x0) 1 99;
    if q0 = 0 then
      True
    else
      (let q1 := f_182 (Int32.toInt64 x1) 0 9;
        if q1 = 0 then
          True
        else
          (let q2 := f_182 (Int32.toInt64 x2) 1 9;
            if q2 = 0 then
              True
            else
              if (I 68 1) = 8 then
                True
              else
                ¬ ((26 + (I 68 1)) < 0 ∨ 5510 ≤ Int32.toNatClampNeg (26 + (I 68 1))) ∧
                ¬ ((34 + (I 68 1)) < 0 ∨ 5510 ≤ Int32.toNatClampNeg (34 + (I 68 1))) ∧
                ¬ ((10 + (I 68 1)) < 0 ∨ 5510 ≤ Int32.toNatClampNeg (10 + (I 68 1))) ∧
                ¬ ((18 + (I 68 1)) < 0 ∨ 5510 ≤ Int32.toNatClampNeg (18 + (I 68 1))) ∧
                ¬ ((42 + (I 68 1)) < 0 ∨ 5510 ≤ Int32.toNatClampNeg (42 + (I 68 1))) ∧
                ¬ ((50 + (I 68 1)) < 0 ∨ 5510 ≤ Int32.toNatClampNeg (50 + (I 68 1))) ∧
                True)))
set_option maxRecDepth 100000 in
theorem s_190 {S : am_S} {d N : Nat} {T : Nat → Nat × Nat} {I : Nat → Nat → Int32} {L : Nat → Nat → Int64} {r : Nat → Nat → Option Nat} {Q : am_Q} {x0 : Int32} {x1 : Int32} {x2 : Int32} (hp : p_190 x0 x1 x2 I L) (hq : Q (some (.int (f_190 x0 x1 x2 I L).1)) (N, am_ts T, (f_190 x0 x1 x2 I L).2.1, (f_190 x0 x1 x2 I L).2.2, am_rs r)) : am_E S 190 (d + 1) 0 0 0 [.ref 66, .int x0, .int x1, .int x2, am_jk] [] (N, am_ts T, I, L, am_rs r) Q := by
  unfold f_190 at hq
  unfold p_190 at hp
  try dsimp only at hq hp
  refine am_E.run [6] 2000 (show (am_E S 190 (d + 1) 0 0 6 [.ref 66, .int x0, .int x1, .int x2, am_jk] [.long 99, .long 1, .long (Int32.toInt64 x0)] (N, am_ts T, I, L, am_rs r) Q) from ?_)
  refine am_E.go ⟨fun v h9 => v = some (.int (f_182 (Int32.toInt64 x0) 1 99)) ∧ h9 = (N, am_ts T, I, L, am_rs r), s_182 ⟨rfl, rfl⟩, ?_⟩
  intro v h9 hv
  obtain ⟨rfl, rfl⟩ := hv
  generalize he_q0 : f_182 (Int32.toInt64 x0) 1 99 = q0 at hq hp ⊢
  refine am_E.run [18] 2000 (show (if q0 = 0 then (True ∧ Q (some (.int (-1))) (N, am_ts T, I, L, am_rs r)) else (am_E S 190 (d + 1) 0 0 18 [.ref 66, .int x0, .int x1, .int x2, am_jk] [.long 9, .long 0, .long (Int32.toInt64 x1)] (N, am_ts T, I, L, am_rs r) Q)) from ?_)
  by_cases hc : q0 = 0
  · rw [if_pos hc] at hq hp ⊢
    exact ⟨trivial, hq⟩
  · rw [if_neg hc] at hq hp ⊢
    refine am_E.go ⟨fun v h9 => v = some (.int (f_182 (Int32.toInt64 x1) 0 9)) ∧ h9 = (N, am_ts T, I, L, am_rs r), s_182 ⟨rfl, rfl⟩, ?_⟩
    intro v h9 hv
    obtain ⟨rfl, rfl⟩ := hv
    generalize he_q1 : f_182 (Int32.toInt64 x1) 0 9 = q1 at hq hp ⊢
    refine am_E.run [30] 2000 (show (if q1 = 0 then (True ∧ Q (some (.int (-1))) (N, am_ts T, I, L, am_rs r)) else (am_E S 190 (d + 1) 0 0 30 [.ref 66, .int x0, .int x1, .int x2, am_jk] [.long 9, .long 1, .long (Int32.toInt64 x2)] (N, am_ts T, I, L, am_rs r) Q)) from ?_)
    by_cases hc : q1 = 0
    · rw [if_pos hc] at hq hp ⊢
      exact ⟨trivial, hq⟩
    · rw [if_neg hc] at hq hp ⊢
      refine am_E.go ⟨fun v h9 => v = some (.int (f_182 (Int32.toInt64 x2) 1 9)) ∧ h9 = (N, am_ts T, I, L, am_rs r), s_182 ⟨rfl, rfl⟩, ?_⟩
      intro v h9 hv
      obtain ⟨rfl, rfl⟩ := hv
      generalize he_q2 : f_182 (Int32.toInt64 x2) 1 9 = q2 at hq hp ⊢
      refine am_E.run [] 2000 (show (if q2 = 0 then (True ∧ Q (some (.int (-1))) (N, am_ts T, I, L, am_rs r)) else (if (I 68 1) = 8 then (True ∧ Q (some (.int (-5))) (N, am_ts T, I, L, am_rs r)) else (if (26 + (I 68 1)) < 0 ∨ 5510 ≤ Int32.toNatClampNeg (26 + (I 68 1)) then False else (if (34 + (I 68 1)) < 0 ∨ 5510 ≤ Int32.toNatClampNeg (34 + (I 68 1)) then False else (if (10 + (I 68 1)) < 0 ∨ 5510 ≤ Int32.toNatClampNeg (10 + (I 68 1)) then False else (if (18 + (I 68 1)) < 0 ∨ 5510 ≤ Int32.toNatClampNeg (18 + (I 68 1)) then False else (if (42 + (I 68 1)) < 0 ∨ 5510 ≤ Int32.toNatClampNeg (42 + (I 68 1)) then False else (if (50 + (I 68 1)) < 0 ∨ 5510 ≤ Int32.toNatClampNeg (50 + (I 68 1)) then False else (True ∧ Q (some (.int (I 68 1))) (N, am_ts T, (am_u (am_u (am_u (am_u (am_u (am_u (am_u I 68 (Int32.toNatClampNeg (26 + (I 68 1))) x0) 68 (Int32.toNatClampNeg (34 + (I 68 1))) x1) 68 (Int32.toNatClampNeg (10 + (I 68 1))) x2) 68 (Int32.toNatClampNeg (18 + (I 68 1))) 0) 68 (Int32.toNatClampNeg (42 + (I 68 1))) 0) 68 (Int32.toNatClampNeg (50 + (I 68 1))) 0) 68 1 (((am_u (am_u (am_u (am_u (am_u (am_u I 68 (Int32.toNatClampNeg (26 + (I 68 1))) x0) 68 (Int32.toNatClampNeg (34 + (I 68 1))) x1) 68 (Int32.toNatClampNeg (10 + (I 68 1))) x2) 68 (Int32.toNatClampNeg (18 + (I 68 1))) 0) 68 (Int32.toNatClampNeg (42 + (I 68 1))) 0) 68 (Int32.toNatClampNeg (50 + (I 68 1))) 0) 68 1) + 1)), L, am_rs r)))))))))) from ?_)
      by_cases hc : q2 = 0
      · rw [if_pos hc] at hq hp ⊢
        exact ⟨trivial, hq⟩
      · rw [if_neg hc] at hq hp ⊢
        by_cases hc : (I 68 1) = 8
        · rw [if_pos hc] at hq hp ⊢
          exact ⟨trivial, hq⟩
        · rw [if_neg hc] at hq hp ⊢
          rw [if_neg hp.1]
          replace hp := hp.2
          rw [if_neg hp.1]
          replace hp := hp.2
          rw [if_neg hp.1]
          replace hp := hp.2
          rw [if_neg hp.1]
          replace hp := hp.2
          rw [if_neg hp.1]
          replace hp := hp.2
          rw [if_neg hp.1]
          replace hp := hp.2
          exact ⟨trivial, hq⟩
/-- KeyKeepersModel.isMan(I)Z -/
def f_192 (x0 : Int32) (I : Nat → Nat → Int32) : Int32 :=
  let q0 := f_182 (Int32.toInt64 x0) 0 ((Int32.toInt64 (I 68 1)) - 1);
  q0
def p_192 (x0 : Int32) (I : Nat → Nat → Int32) : Prop :=
  (let q0 := f_182 (Int32.toInt64 x0) 0 ((Int32.toInt64 (I 68 1)) - 1);
    q0 = 0 ∨ q0 = 1)
set_option maxRecDepth 100000 in
theorem s_192 {S : am_S} {d N : Nat} {T : Nat → Nat × Nat} {I : Nat → Nat → Int32} {L : Nat → Nat → Int64} {r : Nat → Nat → Option Nat} {Q : am_Q} {x0 : Int32} (hp : p_192 x0 I) (hq : Q (some (.int (f_192 x0 I))) (N, am_ts T, I, L, am_rs r)) : am_E S 192 (d + 1) 0 0 0 [.ref 66, .int x0] [] (N, am_ts T, I, L, am_rs r) Q := by
  unfold f_192 at hq
  unfold p_192 at hp
  try dsimp only at hq hp
  refine am_E.run [12] 2000 (show (am_E S 192 (d + 1) 0 0 12 [.ref 66, .int x0] [.long ((Int32.toInt64 (I 68 1)) - 1), .long 0, .long (Int32.toInt64 x0)] (N, am_ts T, I, L, am_rs r) Q) from ?_)
  refine am_E.go ⟨fun v h9 => v = some (.int (f_182 (Int32.toInt64 x0) 0 ((Int32.toInt64 (I 68 1)) - 1))) ∧ h9 = (N, am_ts T, I, L, am_rs r), s_182 ⟨rfl, rfl⟩, ?_⟩
  intro v h9 hv
  obtain ⟨rfl, rfl⟩ := hv
  generalize he_q0 : f_182 (Int32.toInt64 x0) 0 ((Int32.toInt64 (I 68 1)) - 1) = q0 at hq hp ⊢
  refine am_E.run [] 2000 (show ((q0 = 0 ∨ q0 = 1) ∧ Q (some (.int q0)) (N, am_ts T, I, L, am_rs r)) from ?_)
  exact ⟨hp, hq⟩
/-- KeyKeepersModel.changeBit(III)I -/
def f_194 (x0 : Int32) (x1 : Int32) (x2 : Int32) (I : Nat → Nat → Int32) (L : Nat → Nat → Int64) : Int32 × (Nat → Nat → Int32) × (Nat → Nat → Int64) :=
  if (((I 68 (Int32.toNatClampNeg x0)) >>> (x1 &&& 31)) &&& 1) = x2 then
    ((((I 68 (Int32.toNatClampNeg x0)) >>> (x1 &&& 31)) &&& 1), (am_u (am_u I 68 (Int32.toNatClampNeg x0) ((I 68 (Int32.toNatClampNeg x0)) + 0)) 66 1 0), L)
  else
    if x2 = 1 then
      ((((I 68 (Int32.toNatClampNeg x0)) >>> (x1 &&& 31)) &&& 1), (am_u (am_u I 68 (Int32.toNatClampNeg x0) ((I 68 (Int32.toNatClampNeg x0)) + (1 <<< (x1 &&& 31)))) 66 1 0), L)
    else
      ((((I 68 (Int32.toNatClampNeg x0)) >>> (x1 &&& 31)) &&& 1), (am_u (am_u I 68 (Int32.toNatClampNeg x0) ((I 68 (Int32.toNatClampNeg x0)) + (-(1 <<< (x1 &&& 31))))) 66 1 0), L)
def p_194 (x0 : Int32) (x1 : Int32) (x2 : Int32) (I : Nat → Nat → Int32) (L : Nat → Nat → Int64) : Prop :=
  ¬ (x0 < 0 ∨ 5510 ≤ Int32.toNatClampNeg x0) ∧
  ¬ (x0 < 0 ∨ 5510 ≤ Int32.toNatClampNeg x0) ∧
  if (((I 68 (Int32.toNatClampNeg x0)) >>> (x1 &&& 31)) &&& 1) = x2 then
    ¬ (x0 < 0 ∨ 5510 ≤ Int32.toNatClampNeg x0) ∧
    True
  else
    if x2 = 1 then
      ¬ (x0 < 0 ∨ 5510 ≤ Int32.toNatClampNeg x0) ∧
      True
    else
      ¬ (x0 < 0 ∨ 5510 ≤ Int32.toNatClampNeg x0) ∧
      True
set_option maxRecDepth 100000 in
theorem s_194 {S : am_S} {d N : Nat} {T : Nat → Nat × Nat} {I : Nat → Nat → Int32} {L : Nat → Nat → Int64} {r : Nat → Nat → Option Nat} {Q : am_Q} {x0 : Int32} {x1 : Int32} {x2 : Int32} (hp : p_194 x0 x1 x2 I L) (hq : Q (some (.int (f_194 x0 x1 x2 I L).1)) (N, am_ts T, (f_194 x0 x1 x2 I L).2.1, (f_194 x0 x1 x2 I L).2.2, am_rs r)) : am_E S 194 (d + 0) 0 0 0 [.ref 66, .int x0, .int x1, .int x2, am_jk] [] (N, am_ts T, I, L, am_rs r) Q := by
  unfold f_194 at hq
  unfold p_194 at hp
  try dsimp only at hq hp
  refine am_E.run [] 2000 (show (if x0 < 0 ∨ 5510 ≤ Int32.toNatClampNeg x0 then False else (if x0 < 0 ∨ 5510 ≤ Int32.toNatClampNeg x0 then False else (if (((I 68 (Int32.toNatClampNeg x0)) >>> (x1 &&& 31)) &&& 1) = x2 then (if x0 < 0 ∨ 5510 ≤ Int32.toNatClampNeg x0 then False else (True ∧ Q (some (.int (((I 68 (Int32.toNatClampNeg x0)) >>> (x1 &&& 31)) &&& 1))) (N, am_ts T, (am_u (am_u I 68 (Int32.toNatClampNeg x0) ((I 68 (Int32.toNatClampNeg x0)) + 0)) 66 1 0), L, am_rs r))) else (if x2 = 1 then (if x0 < 0 ∨ 5510 ≤ Int32.toNatClampNeg x0 then False else (True ∧ Q (some (.int (((I 68 (Int32.toNatClampNeg x0)) >>> (x1 &&& 31)) &&& 1))) (N, am_ts T, (am_u (am_u I 68 (Int32.toNatClampNeg x0) ((I 68 (Int32.toNatClampNeg x0)) + (1 <<< (x1 &&& 31)))) 66 1 0), L, am_rs r))) else (if x0 < 0 ∨ 5510 ≤ Int32.toNatClampNeg x0 then False else (True ∧ Q (some (.int (((I 68 (Int32.toNatClampNeg x0)) >>> (x1 &&& 31)) &&& 1))) (N, am_ts T, (am_u (am_u I 68 (Int32.toNatClampNeg x0) ((I 68 (Int32.toNatClampNeg x0)) + (-(1 <<< (x1 &&& 31))))) 66 1 0), L, am_rs r))))))) from ?_)
  rw [if_neg hp.1]
  replace hp := hp.2
  rw [if_neg hp.1]
  replace hp := hp.2
  by_cases hc : (((I 68 (Int32.toNatClampNeg x0)) >>> (x1 &&& 31)) &&& 1) = x2
  · rw [if_pos hc] at hq hp ⊢
    rw [if_neg hp.1]
    replace hp := hp.2
    exact ⟨trivial, hq⟩
  · rw [if_neg hc] at hq hp ⊢
    by_cases hc : x2 = 1
    · rw [if_pos hc] at hq hp ⊢
      rw [if_neg hp.1]
      replace hp := hp.2
      exact ⟨trivial, hq⟩
    · rw [if_neg hc] at hq hp ⊢
      rw [if_neg hp.1]
      replace hp := hp.2
      exact ⟨trivial, hq⟩
/-- KeyKeepersModel.trust(III)I -/
def f_195 (x0 : Int32) (x1 : Int32) (x2 : Int32) (I : Nat → Nat → Int32) (L : Nat → Nat → Int64) : Int32 × (Nat → Nat → Int32) × (Nat → Nat → Int64) :=
  if x0 = x1 then
    let q0 := f_179 (-1) (am_u I 66 0 0) L;
    (q0.1, q0.2.1, q0.2.2)
  else
    let q1 := f_182 (Int32.toInt64 x2) 0 1;
    if q1 = 0 then
      let q7 := f_179 (-1) (am_u I 66 0 0) L;
      (q7.1, q7.2.1, q7.2.2)
    else
      let q2 := f_192 x0 (am_u I 66 0 0);
      if q2 = 0 then
        let q3 := f_179 (-2) (am_u I 66 0 0) L;
        (q3.1, q3.2.1, q3.2.2)
      else
        let q4 := f_192 x1 (am_u I 66 0 0);
        if q4 = 0 then
          let q5 := f_179 (-2) (am_u I 66 0 0) L;
          (q5.1, q5.2.1, q5.2.2)
        else
          let q6 := f_194 (42 + x0) x1 x2 (am_u I 66 0 0) L;
          (q6.1, q6.2.1, q6.2.2)
def p_195 (x0 : Int32) (x1 : Int32) (x2 : Int32) (I : Nat → Nat → Int32) (L : Nat → Nat → Int64) : Prop :=
  if x0 = x1 then
    p_179 (-1) (am_u I 66 0 0) L
  else
    (let q1 := f_182 (Int32.toInt64 x2) 0 1;
      if q1 = 0 then
        p_179 (-1) (am_u I 66 0 0) L
      else
        p_192 x0 (am_u I 66 0 0) ∧
        (let q2 := f_192 x0 (am_u I 66 0 0);
          if q2 = 0 then
            p_179 (-2) (am_u I 66 0 0) L
          else
            p_192 x1 (am_u I 66 0 0) ∧
            (let q4 := f_192 x1 (am_u I 66 0 0);
              if q4 = 0 then
                p_179 (-2) (am_u I 66 0 0) L
              else
                p_194 (42 + x0) x1 x2 (am_u I 66 0 0) L)))
set_option maxRecDepth 100000 in
theorem s_195 {S : am_S} {d N : Nat} {T : Nat → Nat × Nat} {I : Nat → Nat → Int32} {L : Nat → Nat → Int64} {r : Nat → Nat → Option Nat} {Q : am_Q} {x0 : Int32} {x1 : Int32} {x2 : Int32} (hp : p_195 x0 x1 x2 I L) (hq : Q (some (.int (f_195 x0 x1 x2 I L).1)) (N, am_ts T, (f_195 x0 x1 x2 I L).2.1, (f_195 x0 x1 x2 I L).2.2, am_rs r)) : am_E S 195 (d + 2) 0 0 0 [.ref 66, .int x0, .int x1, .int x2] [] (N, am_ts T, I, L, am_rs r) Q := by
  unfold f_195 at hq
  unfold p_195 at hp
  try dsimp only at hq hp
  refine am_E.run [14, 22] 2000 (show (if x0 = x1 then (am_E S 195 (d + 2) 0 0 22 [.ref 66, .int x0, .int x1, .int x2] [.int (-1), .ref 66] (N, am_ts T, (am_u I 66 0 0), L, am_rs r) Q) else (am_E S 195 (d + 2) 0 0 14 [.ref 66, .int x0, .int x1, .int x2] [.long 1, .long 0, .long (Int32.toInt64 x2)] (N, am_ts T, (am_u I 66 0 0), L, am_rs r) Q)) from ?_)
  by_cases hc : x0 = x1
  · rw [if_pos hc] at hq hp ⊢
    refine am_E.go ⟨fun v h9 => v = some (.int (f_179 (-1) (am_u I 66 0 0) L).1) ∧ h9 = (N, am_ts T, (f_179 (-1) (am_u I 66 0 0) L).2.1, (f_179 (-1) (am_u I 66 0 0) L).2.2, am_rs r), s_179 hp ⟨rfl, rfl⟩, ?_⟩
    intro v h9 hv
    obtain ⟨rfl, rfl⟩ := hv
    generalize he_q0 : f_179 (-1) (am_u I 66 0 0) L = q0 at hq ⊢
    refine am_E.run [] 2000 (show (True ∧ Q (some (.int q0.1)) (N, am_ts T, q0.2.1, q0.2.2, am_rs r)) from ?_)
    exact ⟨trivial, hq⟩
  · rw [if_neg hc] at hq hp ⊢
    refine am_E.go ⟨fun v h9 => v = some (.int (f_182 (Int32.toInt64 x2) 0 1)) ∧ h9 = (N, am_ts T, (am_u I 66 0 0), L, am_rs r), s_182 ⟨rfl, rfl⟩, ?_⟩
    intro v h9 hv
    obtain ⟨rfl, rfl⟩ := hv
    generalize he_q1 : f_182 (Int32.toInt64 x2) 0 1 = q1 at hq hp ⊢
    refine am_E.run [22, 28] 2000 (show (if q1 = 0 then (am_E S 195 (d + 2) 0 0 22 [.ref 66, .int x0, .int x1, .int x2] [.int (-1), .ref 66] (N, am_ts T, (am_u I 66 0 0), L, am_rs r) Q) else (am_E S 195 (d + 2) 0 0 28 [.ref 66, .int x0, .int x1, .int x2] [.int x0, .ref 66] (N, am_ts T, (am_u I 66 0 0), L, am_rs r) Q)) from ?_)
    by_cases hc : q1 = 0
    · rw [if_pos hc] at hq hp ⊢
      refine am_E.go ⟨fun v h9 => v = some (.int (f_179 (-1) (am_u I 66 0 0) L).1) ∧ h9 = (N, am_ts T, (f_179 (-1) (am_u I 66 0 0) L).2.1, (f_179 (-1) (am_u I 66 0 0) L).2.2, am_rs r), s_179 hp ⟨rfl, rfl⟩, ?_⟩
      intro v h9 hv
      obtain ⟨rfl, rfl⟩ := hv
      generalize he_q7 : f_179 (-1) (am_u I 66 0 0) L = q7 at hq ⊢
      refine am_E.run [] 2000 (show (True ∧ Q (some (.int q7.1)) (N, am_ts T, q7.2.1, q7.2.2, am_rs r)) from ?_)
      exact ⟨trivial, hq⟩
    · rw [if_neg hc] at hq hp ⊢
      refine am_E.go ⟨fun v h9 => v = some (.int (f_192 x0 (am_u I 66 0 0))) ∧ h9 = (N, am_ts T, (am_u I 66 0 0), L, am_rs r), s_192 hp.1 ⟨rfl, rfl⟩, ?_⟩
      replace hp := hp.2
      intro v h9 hv
      obtain ⟨rfl, rfl⟩ := hv
      generalize he_q2 : f_192 x0 (am_u I 66 0 0) = q2 at hq hp ⊢
      refine am_E.run [36, 58] 2000 (show (if q2 = 0 then (am_E S 195 (d + 2) 0 0 58 [.ref 66, .int x0, .int x1, .int x2] [.int (-2), .ref 66] (N, am_ts T, (am_u I 66 0 0), L, am_rs r) Q) else (am_E S 195 (d + 2) 0 0 36 [.ref 66, .int x0, .int x1, .int x2] [.int x1, .ref 66] (N, am_ts T, (am_u I 66 0 0), L, am_rs r) Q)) from ?_)
      by_cases hc : q2 = 0
      · rw [if_pos hc] at hq hp ⊢
        refine am_E.go ⟨fun v h9 => v = some (.int (f_179 (-2) (am_u I 66 0 0) L).1) ∧ h9 = (N, am_ts T, (f_179 (-2) (am_u I 66 0 0) L).2.1, (f_179 (-2) (am_u I 66 0 0) L).2.2, am_rs r), s_179 hp ⟨rfl, rfl⟩, ?_⟩
        intro v h9 hv
        obtain ⟨rfl, rfl⟩ := hv
        generalize he_q3 : f_179 (-2) (am_u I 66 0 0) L = q3 at hq ⊢
        refine am_E.run [] 2000 (show (True ∧ Q (some (.int q3.1)) (N, am_ts T, q3.2.1, q3.2.2, am_rs r)) from ?_)
        exact ⟨trivial, hq⟩
      · rw [if_neg hc] at hq hp ⊢
        refine am_E.go ⟨fun v h9 => v = some (.int (f_192 x1 (am_u I 66 0 0))) ∧ h9 = (N, am_ts T, (am_u I 66 0 0), L, am_rs r), s_192 hp.1 ⟨rfl, rfl⟩, ?_⟩
        replace hp := hp.2
        intro v h9 hv
        obtain ⟨rfl, rfl⟩ := hv
        generalize he_q4 : f_192 x1 (am_u I 66 0 0) = q4 at hq hp ⊢
        refine am_E.run [49, 58] 2000 (show (if q4 = 0 then (am_E S 195 (d + 2) 0 0 58 [.ref 66, .int x0, .int x1, .int x2] [.int (-2), .ref 66] (N, am_ts T, (am_u I 66 0 0), L, am_rs r) Q) else (am_E S 195 (d + 2) 0 0 49 [.ref 66, .int x0, .int x1, .int x2] [.int x2, .int x1, .int (42 + x0), .ref 66] (N, am_ts T, (am_u I 66 0 0), L, am_rs r) Q)) from ?_)
        by_cases hc : q4 = 0
        · rw [if_pos hc] at hq hp ⊢
          refine am_E.go ⟨fun v h9 => v = some (.int (f_179 (-2) (am_u I 66 0 0) L).1) ∧ h9 = (N, am_ts T, (f_179 (-2) (am_u I 66 0 0) L).2.1, (f_179 (-2) (am_u I 66 0 0) L).2.2, am_rs r), s_179 hp ⟨rfl, rfl⟩, ?_⟩
          intro v h9 hv
          obtain ⟨rfl, rfl⟩ := hv
          generalize he_q5 : f_179 (-2) (am_u I 66 0 0) L = q5 at hq ⊢
          refine am_E.run [] 2000 (show (True ∧ Q (some (.int q5.1)) (N, am_ts T, q5.2.1, q5.2.2, am_rs r)) from ?_)
          exact ⟨trivial, hq⟩
        · rw [if_neg hc] at hq hp ⊢
          refine am_E.go ⟨fun v h9 => v = some (.int (f_194 (42 + x0) x1 x2 (am_u I 66 0 0) L).1) ∧ h9 = (N, am_ts T, (f_194 (42 + x0) x1 x2 (am_u I 66 0 0) L).2.1, (f_194 (42 + x0) x1 x2 (am_u I 66 0 0) L).2.2, am_rs r), s_194 hp ⟨rfl, rfl⟩, ?_⟩
          intro v h9 hv
          obtain ⟨rfl, rfl⟩ := hv
          generalize he_q6 : f_194 (42 + x0) x1 x2 (am_u I 66 0 0) L = q6 at hq ⊢
          refine am_E.run [] 2000 (show (True ∧ Q (some (.int q6.1)) (N, am_ts T, q6.2.1, q6.2.2, am_rs r)) from ?_)
          exact ⟨trivial, hq⟩
