/-- KeyKeepers$Prison.breadBehind(II)I -/
def f_101 (x0 : Int32) (x1 : Int32) (I : Nat → Nat → Int32) : Int32 :=
  if x1 = (I 1 10) then
    (if (x0 + (2 * x1)) < 99999 then (x0 + (2 * x1)) else 99999)
  else
    (if (x0 + x1) < 99999 then (x0 + x1) else 99999)
set_option maxRecDepth 100000 in
theorem s_101 {S : am_S} {d N : Nat} {T : Nat → Nat × Nat} {I : Nat → Nat → Int32} {L : Nat → Nat → Int64} {r : Nat → Nat → Option Nat} {Q : am_Q} {x0 : Int32} {x1 : Int32} (hq : Q (some (.int (f_101 x0 x1 I))) (N, am_ts T, I, L, am_rs r)) : am_E S 101 (d + 1) 0 0 0 [.ref 1, .int x0, .int x1, am_jk] [] (N, am_ts T, I, L, am_rs r) Q := by
  unfold f_101 at hq
  try dsimp only at hq
  refine am_E.run [] 2000 (show (if x1 = (I 1 10) then (True ∧ Q (some (.int (if (x0 + (2 * x1)) < 99999 then (x0 + (2 * x1)) else 99999))) (N, am_ts T, I, L, am_rs r)) else (True ∧ Q (some (.int (if (x0 + x1) < 99999 then (x0 + x1) else 99999))) (N, am_ts T, I, L, am_rs r))) from ?_)
  by_cases hc : x1 = (I 1 10)
  · rw [if_pos hc] at hq ⊢
    exact ⟨trivial, hq⟩
  · rw [if_neg hc] at hq ⊢
    exact ⟨trivial, hq⟩
/-- KeyKeepers.fault()I -/
def f_103 (I : Nat → Nat → Int32) : Int32 :=
  (I 14 2)
set_option maxRecDepth 100000 in
theorem s_103 {S : am_S} {d N : Nat} {T : Nat → Nat × Nat} {I : Nat → Nat → Int32} {L : Nat → Nat → Int64} {r : Nat → Nat → Option Nat} {Q : am_Q} (hq : Q (some (.int (f_103 I))) (N, am_ts T, I, L, am_rs r)) : am_E S 103 (d + 0) 0 0 0 [.ref 0] [] (N, am_ts T, I, L, am_rs r) Q := by
  unfold f_103 at hq
  try dsimp only at hq
  refine am_E.run [] 2000 (show (True ∧ Q (some (.int (I 14 2))) (N, am_ts T, I, L, am_rs r)) from ?_)
  exact ⟨trivial, hq⟩
/-- KeyKeepers.stopped()I -/
def f_104 (I : Nat → Nat → Int32) : Int32 :=
  (I 35 1)
set_option maxRecDepth 100000 in
theorem s_104 {S : am_S} {d N : Nat} {T : Nat → Nat × Nat} {I : Nat → Nat → Int32} {L : Nat → Nat → Int64} {r : Nat → Nat → Option Nat} {Q : am_Q} (hq : Q (some (.int (f_104 I))) (N, am_ts T, I, L, am_rs r)) : am_E S 104 (d + 0) 0 0 0 [.ref 0] [] (N, am_ts T, I, L, am_rs r) Q := by
  unfold f_104 at hq
  try dsimp only at hq
  refine am_E.run [] 2000 (show (True ∧ Q (some (.int (I 35 1))) (N, am_ts T, I, L, am_rs r)) from ?_)
  exact ⟨trivial, hq⟩
/-- KeyKeepers$Prison.hasLaw(I)Z -/
def f_106 (x0 : Int32) (I : Nat → Nat → Int32) : Int32 :=
  if x0 < 0 then
    0
  else
    if (I 1 15) ≤ x0 then
      0
    else
      1
set_option maxRecDepth 100000 in
theorem s_106 {S : am_S} {d N : Nat} {T : Nat → Nat × Nat} {I : Nat → Nat → Int32} {L : Nat → Nat → Int64} {r : Nat → Nat → Option Nat} {Q : am_Q} {x0 : Int32} (hq : Q (some (.int (f_106 x0 I))) (N, am_ts T, I, L, am_rs r)) : am_E S 106 (d + 0) 0 0 0 [.ref 1, .int x0] [] (N, am_ts T, I, L, am_rs r) Q := by
  unfold f_106 at hq
  try dsimp only at hq
  refine am_E.run [] 2000 (show (if x0 < 0 then (((0 : Int32) = 0 ∨ (0 : Int32) = 1) ∧ Q (some (.int 0)) (N, am_ts T, I, L, am_rs r)) else (if (I 1 15) ≤ x0 then (((0 : Int32) = 0 ∨ (0 : Int32) = 1) ∧ Q (some (.int 0)) (N, am_ts T, I, L, am_rs r)) else (((1 : Int32) = 0 ∨ (1 : Int32) = 1) ∧ Q (some (.int 1)) (N, am_ts T, I, L, am_rs r)))) from ?_)
  by_cases hc : x0 < 0
  · rw [if_pos hc] at hq ⊢
    exact ⟨Or.inl rfl, hq⟩
  · rw [if_neg hc] at hq ⊢
    by_cases hc : (I 1 15) ≤ x0
    · rw [if_pos hc] at hq ⊢
      exact ⟨Or.inl rfl, hq⟩
    · rw [if_neg hc] at hq ⊢
      exact ⟨Or.inr rfl, hq⟩
/-- java/lang/Integer.bitCount(I)I -/
def f_111 (x0 : Int32) : Int32 :=
  ((((((((x0 - ((UInt32.toInt32 (Int32.toUInt32 x0 >>> (Int32.toUInt32 1 &&& Int32.toUInt32 31))) &&& 1431655765)) &&& 858993459) + ((UInt32.toInt32 (Int32.toUInt32 (x0 - ((UInt32.toInt32 (Int32.toUInt32 x0 >>> (Int32.toUInt32 1 &&& Int32.toUInt32 31))) &&& 1431655765)) >>> (Int32.toUInt32 2 &&& Int32.toUInt32 31))) &&& 858993459)) + (UInt32.toInt32 (Int32.toUInt32 (((x0 - ((UInt32.toInt32 (Int32.toUInt32 x0 >>> (Int32.toUInt32 1 &&& Int32.toUInt32 31))) &&& 1431655765)) &&& 858993459) + ((UInt32.toInt32 (Int32.toUInt32 (x0 - ((UInt32.toInt32 (Int32.toUInt32 x0 >>> (Int32.toUInt32 1 &&& Int32.toUInt32 31))) &&& 1431655765)) >>> (Int32.toUInt32 2 &&& Int32.toUInt32 31))) &&& 858993459)) >>> (Int32.toUInt32 4 &&& Int32.toUInt32 31)))) &&& 252645135) + (UInt32.toInt32 (Int32.toUInt32 (((((x0 - ((UInt32.toInt32 (Int32.toUInt32 x0 >>> (Int32.toUInt32 1 &&& Int32.toUInt32 31))) &&& 1431655765)) &&& 858993459) + ((UInt32.toInt32 (Int32.toUInt32 (x0 - ((UInt32.toInt32 (Int32.toUInt32 x0 >>> (Int32.toUInt32 1 &&& Int32.toUInt32 31))) &&& 1431655765)) >>> (Int32.toUInt32 2 &&& Int32.toUInt32 31))) &&& 858993459)) + (UInt32.toInt32 (Int32.toUInt32 (((x0 - ((UInt32.toInt32 (Int32.toUInt32 x0 >>> (Int32.toUInt32 1 &&& Int32.toUInt32 31))) &&& 1431655765)) &&& 858993459) + ((UInt32.toInt32 (Int32.toUInt32 (x0 - ((UInt32.toInt32 (Int32.toUInt32 x0 >>> (Int32.toUInt32 1 &&& Int32.toUInt32 31))) &&& 1431655765)) >>> (Int32.toUInt32 2 &&& Int32.toUInt32 31))) &&& 858993459)) >>> (Int32.toUInt32 4 &&& Int32.toUInt32 31)))) &&& 252645135) >>> (Int32.toUInt32 8 &&& Int32.toUInt32 31)))) + (UInt32.toInt32 (Int32.toUInt32 ((((((x0 - ((UInt32.toInt32 (Int32.toUInt32 x0 >>> (Int32.toUInt32 1 &&& Int32.toUInt32 31))) &&& 1431655765)) &&& 858993459) + ((UInt32.toInt32 (Int32.toUInt32 (x0 - ((UInt32.toInt32 (Int32.toUInt32 x0 >>> (Int32.toUInt32 1 &&& Int32.toUInt32 31))) &&& 1431655765)) >>> (Int32.toUInt32 2 &&& Int32.toUInt32 31))) &&& 858993459)) + (UInt32.toInt32 (Int32.toUInt32 (((x0 - ((UInt32.toInt32 (Int32.toUInt32 x0 >>> (Int32.toUInt32 1 &&& Int32.toUInt32 31))) &&& 1431655765)) &&& 858993459) + ((UInt32.toInt32 (Int32.toUInt32 (x0 - ((UInt32.toInt32 (Int32.toUInt32 x0 >>> (Int32.toUInt32 1 &&& Int32.toUInt32 31))) &&& 1431655765)) >>> (Int32.toUInt32 2 &&& Int32.toUInt32 31))) &&& 858993459)) >>> (Int32.toUInt32 4 &&& Int32.toUInt32 31)))) &&& 252645135) + (UInt32.toInt32 (Int32.toUInt32 (((((x0 - ((UInt32.toInt32 (Int32.toUInt32 x0 >>> (Int32.toUInt32 1 &&& Int32.toUInt32 31))) &&& 1431655765)) &&& 858993459) + ((UInt32.toInt32 (Int32.toUInt32 (x0 - ((UInt32.toInt32 (Int32.toUInt32 x0 >>> (Int32.toUInt32 1 &&& Int32.toUInt32 31))) &&& 1431655765)) >>> (Int32.toUInt32 2 &&& Int32.toUInt32 31))) &&& 858993459)) + (UInt32.toInt32 (Int32.toUInt32 (((x0 - ((UInt32.toInt32 (Int32.toUInt32 x0 >>> (Int32.toUInt32 1 &&& Int32.toUInt32 31))) &&& 1431655765)) &&& 858993459) + ((UInt32.toInt32 (Int32.toUInt32 (x0 - ((UInt32.toInt32 (Int32.toUInt32 x0 >>> (Int32.toUInt32 1 &&& Int32.toUInt32 31))) &&& 1431655765)) >>> (Int32.toUInt32 2 &&& Int32.toUInt32 31))) &&& 858993459)) >>> (Int32.toUInt32 4 &&& Int32.toUInt32 31)))) &&& 252645135) >>> (Int32.toUInt32 8 &&& Int32.toUInt32 31)))) >>> (Int32.toUInt32 16 &&& Int32.toUInt32 31)))) &&& 63)
set_option maxRecDepth 100000 in
theorem s_111 {S : am_S} {d N : Nat} {T : Nat → Nat × Nat} {I : Nat → Nat → Int32} {L : Nat → Nat → Int64} {r : Nat → Nat → Option Nat} {Q : am_Q} {x0 : Int32} (hq : Q (some (.int (f_111 x0))) (N, am_ts T, I, L, am_rs r)) : am_E S 111 (d + 0) 0 0 0 [.int x0] [] (N, am_ts T, I, L, am_rs r) Q := by
  unfold f_111 at hq
  try dsimp only at hq
  refine am_E.run [] 2000 (show (True ∧ Q (some (.int ((((((((x0 - ((UInt32.toInt32 (Int32.toUInt32 x0 >>> (Int32.toUInt32 1 &&& Int32.toUInt32 31))) &&& 1431655765)) &&& 858993459) + ((UInt32.toInt32 (Int32.toUInt32 (x0 - ((UInt32.toInt32 (Int32.toUInt32 x0 >>> (Int32.toUInt32 1 &&& Int32.toUInt32 31))) &&& 1431655765)) >>> (Int32.toUInt32 2 &&& Int32.toUInt32 31))) &&& 858993459)) + (UInt32.toInt32 (Int32.toUInt32 (((x0 - ((UInt32.toInt32 (Int32.toUInt32 x0 >>> (Int32.toUInt32 1 &&& Int32.toUInt32 31))) &&& 1431655765)) &&& 858993459) + ((UInt32.toInt32 (Int32.toUInt32 (x0 - ((UInt32.toInt32 (Int32.toUInt32 x0 >>> (Int32.toUInt32 1 &&& Int32.toUInt32 31))) &&& 1431655765)) >>> (Int32.toUInt32 2 &&& Int32.toUInt32 31))) &&& 858993459)) >>> (Int32.toUInt32 4 &&& Int32.toUInt32 31)))) &&& 252645135) + (UInt32.toInt32 (Int32.toUInt32 (((((x0 - ((UInt32.toInt32 (Int32.toUInt32 x0 >>> (Int32.toUInt32 1 &&& Int32.toUInt32 31))) &&& 1431655765)) &&& 858993459) + ((UInt32.toInt32 (Int32.toUInt32 (x0 - ((UInt32.toInt32 (Int32.toUInt32 x0 >>> (Int32.toUInt32 1 &&& Int32.toUInt32 31))) &&& 1431655765)) >>> (Int32.toUInt32 2 &&& Int32.toUInt32 31))) &&& 858993459)) + (UInt32.toInt32 (Int32.toUInt32 (((x0 - ((UInt32.toInt32 (Int32.toUInt32 x0 >>> (Int32.toUInt32 1 &&& Int32.toUInt32 31))) &&& 1431655765)) &&& 858993459) + ((UInt32.toInt32 (Int32.toUInt32 (x0 - ((UInt32.toInt32 (Int32.toUInt32 x0 >>> (Int32.toUInt32 1 &&& Int32.toUInt32 31))) &&& 1431655765)) >>> (Int32.toUInt32 2 &&& Int32.toUInt32 31))) &&& 858993459)) >>> (Int32.toUInt32 4 &&& Int32.toUInt32 31)))) &&& 252645135) >>> (Int32.toUInt32 8 &&& Int32.toUInt32 31)))) + (UInt32.toInt32 (Int32.toUInt32 ((((((x0 - ((UInt32.toInt32 (Int32.toUInt32 x0 >>> (Int32.toUInt32 1 &&& Int32.toUInt32 31))) &&& 1431655765)) &&& 858993459) + ((UInt32.toInt32 (Int32.toUInt32 (x0 - ((UInt32.toInt32 (Int32.toUInt32 x0 >>> (Int32.toUInt32 1 &&& Int32.toUInt32 31))) &&& 1431655765)) >>> (Int32.toUInt32 2 &&& Int32.toUInt32 31))) &&& 858993459)) + (UInt32.toInt32 (Int32.toUInt32 (((x0 - ((UInt32.toInt32 (Int32.toUInt32 x0 >>> (Int32.toUInt32 1 &&& Int32.toUInt32 31))) &&& 1431655765)) &&& 858993459) + ((UInt32.toInt32 (Int32.toUInt32 (x0 - ((UInt32.toInt32 (Int32.toUInt32 x0 >>> (Int32.toUInt32 1 &&& Int32.toUInt32 31))) &&& 1431655765)) >>> (Int32.toUInt32 2 &&& Int32.toUInt32 31))) &&& 858993459)) >>> (Int32.toUInt32 4 &&& Int32.toUInt32 31)))) &&& 252645135) + (UInt32.toInt32 (Int32.toUInt32 (((((x0 - ((UInt32.toInt32 (Int32.toUInt32 x0 >>> (Int32.toUInt32 1 &&& Int32.toUInt32 31))) &&& 1431655765)) &&& 858993459) + ((UInt32.toInt32 (Int32.toUInt32 (x0 - ((UInt32.toInt32 (Int32.toUInt32 x0 >>> (Int32.toUInt32 1 &&& Int32.toUInt32 31))) &&& 1431655765)) >>> (Int32.toUInt32 2 &&& Int32.toUInt32 31))) &&& 858993459)) + (UInt32.toInt32 (Int32.toUInt32 (((x0 - ((UInt32.toInt32 (Int32.toUInt32 x0 >>> (Int32.toUInt32 1 &&& Int32.toUInt32 31))) &&& 1431655765)) &&& 858993459) + ((UInt32.toInt32 (Int32.toUInt32 (x0 - ((UInt32.toInt32 (Int32.toUInt32 x0 >>> (Int32.toUInt32 1 &&& Int32.toUInt32 31))) &&& 1431655765)) >>> (Int32.toUInt32 2 &&& Int32.toUInt32 31))) &&& 858993459)) >>> (Int32.toUInt32 4 &&& Int32.toUInt32 31)))) &&& 252645135) >>> (Int32.toUInt32 8 &&& Int32.toUInt32 31)))) >>> (Int32.toUInt32 16 &&& Int32.toUInt32 31)))) &&& 63))) (N, am_ts T, I, L, am_rs r)) from ?_)
  exact ⟨trivial, hq⟩
/-- KeyKeepers.settleOrRefuse(I)I -/
def f_118 (x0 : Int32) (I : Nat → Nat → Int32) (L : Nat → Nat → Int64) : Int32 × (Nat → Nat → Int32) × (Nat → Nat → Int64) :=
  if (0 : Int32) ≤ x0 then
    let q0 := f_16 x0 I L;
    (q0.1, q0.2.1, q0.2.2)
  else
    let q1 := f_14 x0 I L;
    (q1.1, q1.2.1, q1.2.2)
def p_118 (x0 : Int32) (I : Nat → Nat → Int32) (L : Nat → Nat → Int64) : Prop :=
  if (0 : Int32) ≤ x0 then
    True
  else
    p_14 x0 I L ∧
    (let q1 := f_14 x0 I L;
      True)
set_option maxRecDepth 100000 in
theorem s_118 {S : am_S} {d N : Nat} {T : Nat → Nat × Nat} {I : Nat → Nat → Int32} {L : Nat → Nat → Int64} {r : Nat → Nat → Option Nat} {Q : am_Q} {x0 : Int32} (hp : p_118 x0 I L) (hq : Q (some (.int (f_118 x0 I L).1)) (N, am_ts T, (f_118 x0 I L).2.1, (f_118 x0 I L).2.2, am_rs r)) : am_E S 118 (d + 1) 0 0 0 [.ref 0, .int x0] [] (N, am_ts T, I, L, am_rs r) Q := by
  unfold f_118 at hq
  unfold p_118 at hp
  try dsimp only at hq hp
  refine am_E.run [6, 14] 2000 (show (if (0 : Int32) ≤ x0 then (am_E S 118 (d + 1) 0 0 14 [.ref 0, .int x0] [.int x0, .ref 0] (N, am_ts T, I, L, am_rs r) Q) else (am_E S 118 (d + 1) 0 0 6 [.ref 0, .int x0] [.int x0, .ref 0] (N, am_ts T, I, L, am_rs r) Q)) from ?_)
  by_cases hc : (0 : Int32) ≤ x0
  · rw [if_pos hc] at hq hp ⊢
    refine am_E.go ⟨fun v h9 => v = some (.int (f_16 x0 I L).1) ∧ h9 = (N, am_ts T, (f_16 x0 I L).2.1, (f_16 x0 I L).2.2, am_rs r), s_16 ⟨rfl, rfl⟩, ?_⟩
    intro v h9 hv
    obtain ⟨rfl, rfl⟩ := hv
    generalize he_q0 : f_16 x0 I L = q0 at hq ⊢
    refine am_E.run [] 2000 (show (True ∧ Q (some (.int q0.1)) (N, am_ts T, q0.2.1, q0.2.2, am_rs r)) from ?_)
    exact ⟨trivial, hq⟩
  · rw [if_neg hc] at hq hp ⊢
    refine am_E.go ⟨fun v h9 => v = some (.int (f_14 x0 I L).1) ∧ h9 = (N, am_ts T, (f_14 x0 I L).2.1, (f_14 x0 I L).2.2, am_rs r), s_14 hp.1 ⟨rfl, rfl⟩, ?_⟩
    replace hp := hp.2
    intro v h9 hv
    obtain ⟨rfl, rfl⟩ := hv
    generalize he_q1 : f_14 x0 I L = q1 at hq ⊢
    refine am_E.run [] 2000 (show (True ∧ Q (some (.int q1.1)) (N, am_ts T, q1.2.1, q1.2.2, am_rs r)) from ?_)
    exact ⟨trivial, hq⟩
def lp_127_9 : Nat → Int32 → Int32 → Int32 → (Nat → Nat → Int32) → (Nat → Nat → Int64) → Nat × Int32 × Int32 × Int32
  | 0, v1, v2, v3, I, L => (0, 0, v2, v3)
  | n + 1, v1, v2, v3, I, L =>
    if (I 1 10) ≤ v3 then
      (0, 0, v2, v3)
    else
      let q0 := f_20 (I 8 (Int32.toNatClampNeg v3)) v1;
      if q0 = 1 then
        lp_127_9 n v1 (v2 ||| (I 7 (Int32.toNatClampNeg v3))) (v3 + 1) I L
      else
        lp_127_9 n v1 v2 (v3 + 1) I L
def lq_127_9 : Nat → Int32 → Int32 → Int32 → (Nat → Nat → Int32) → (Nat → Nat → Int64) → Prop
  | 0, v1, v2, v3, I, L => False
  | n + 1, v1, v2, v3, I, L =>
    if (I 1 10) ≤ v3 then
      True
    else
      ¬ (v3 < 0 ∨ 8 ≤ Int32.toNatClampNeg v3) ∧
      (let q0 := f_20 (I 8 (Int32.toNatClampNeg v3)) v1;
        if q0 = 1 then
          ¬ (v3 < 0 ∨ 8 ≤ Int32.toNatClampNeg v3) ∧
          lq_127_9 n v1 (v2 ||| (I 7 (Int32.toNatClampNeg v3))) (v3 + 1) I L
        else
          lq_127_9 n v1 v2 (v3 + 1) I L)
set_option maxRecDepth 100000 in
theorem sl_127_9 {S : am_S} {d N : Nat} {T : Nat → Nat × Nat} {r : Nat → Nat → Option Nat} {Q : am_Q} : ∀ (n : Nat) {v1 : Int32} {v2 : Int32} {v3 : Int32} {I : Nat → Nat → Int32} {L : Nat → Nat → Int64} (hp : lq_127_9 n v1 v2 v3 I L) (h0 : (lp_127_9 n v1 v2 v3 I L).1 = 0 → am_E S 127 (d + 1) 0 0 46 [.ref 1, .int v1, .int (lp_127_9 n v1 v2 v3 I L).2.2.1, .int (lp_127_9 n v1 v2 v3 I L).2.2.2] [] (N, am_ts T, I, L, am_rs r) Q), am_E S 127 (d + 1) 0 0 9 [.ref 1, .int v1, .int v2, .int v3] [] (N, am_ts T, I, L, am_rs r) Q
  | 0, _, _, _, _, _, hp, _ => hp.elim
  | n + 1, v1, v2, v3, I, L, hp, h0 => by
    have ih := @sl_127_9 S d N T r Q n
    unfold lp_127_9 at h0
    unfold lq_127_9 at hp
    try dsimp only at h0 hp
    refine am_E.run [24, 46] 2000 (show (if (I 1 10) ≤ v3 then (am_E S 127 (d + 1) 0 0 46 [.ref 1, .int v1, .int v2, .int v3] [] (N, am_ts T, I, L, am_rs r) Q) else (if v3 < 0 ∨ 8 ≤ Int32.toNatClampNeg v3 then False else (am_E S 127 (d + 1) 0 0 24 [.ref 1, .int v1, .int v2, .int v3] [.int v1, .int (I 8 (Int32.toNatClampNeg v3))] (N, am_ts T, I, L, am_rs r) Q))) from ?_)
    by_cases hc : (I 1 10) ≤ v3
    · rw [if_pos hc] at h0 hp ⊢
      exact h0 rfl
    · rw [if_neg hc] at h0 hp ⊢
      rw [if_neg hp.1]
      replace hp := hp.2
      refine am_E.go ⟨fun v h9 => v = some (.int (f_20 (I 8 (Int32.toNatClampNeg v3)) v1)) ∧ h9 = (N, am_ts T, I, L, am_rs r), s_20 ⟨rfl, rfl⟩, ?_⟩
      intro v h9 hv
      obtain ⟨rfl, rfl⟩ := hv
      generalize he_q0 : f_20 (I 8 (Int32.toNatClampNeg v3)) v1 = q0 at h0 hp ⊢
      refine am_E.run [9] 2000 (show (if q0 = 1 then (if v3 < 0 ∨ 8 ≤ Int32.toNatClampNeg v3 then False else (am_E S 127 (d + 1) 0 0 9 [.ref 1, .int v1, .int (v2 ||| (I 7 (Int32.toNatClampNeg v3))), .int (v3 + 1)] [] (N, am_ts T, I, L, am_rs r) Q)) else (am_E S 127 (d + 1) 0 0 9 [.ref 1, .int v1, .int v2, .int (v3 + 1)] [] (N, am_ts T, I, L, am_rs r) Q)) from ?_)
      by_cases hc : q0 = 1
      · rw [if_pos hc] at h0 hp ⊢
        rw [if_neg hp.1]
        replace hp := hp.2
        exact ih hp h0
      · rw [if_neg hc] at h0 hp ⊢
        exact ih hp h0
/-- KeyKeepers$Doors.usableDoors(LKeyKeepers$Prison;I)I -/
def f_127 (x1 : Int32) (I : Nat → Nat → Int32) (L : Nat → Nat → Int64) : Int32 :=
  let q1 := lp_127_9 am_fu x1 (I 7 (Int32.toNatClampNeg x1)) 0 I L;
  (q1.2.2.1 &&& ((I 1 3) ^^^ (-1)))
def p_127 (x1 : Int32) (I : Nat → Nat → Int32) (L : Nat → Nat → Int64) : Prop :=
  ¬ (x1 < 0 ∨ 8 ≤ Int32.toNatClampNeg x1) ∧
  lq_127_9 am_fu x1 (I 7 (Int32.toNatClampNeg x1)) 0 I L ∧
  (let q1 := lp_127_9 am_fu x1 (I 7 (Int32.toNatClampNeg x1)) 0 I L;
    True)
set_option maxRecDepth 100000 in
theorem s_127 {S : am_S} {d N : Nat} {T : Nat → Nat × Nat} {I : Nat → Nat → Int32} {L : Nat → Nat → Int64} {r : Nat → Nat → Option Nat} {Q : am_Q} {x1 : Int32} (hp : p_127 x1 I L) (hq : Q (some (.int (f_127 x1 I L))) (N, am_ts T, I, L, am_rs r)) : am_E S 127 (d + 1) 0 0 0 [.ref 1, .int x1, am_jk, am_jk] [] (N, am_ts T, I, L, am_rs r) Q := by
  unfold f_127 at hq
  unfold p_127 at hp
  try dsimp only at hq hp
  refine am_E.run [9] 2000 (show (if x1 < 0 ∨ 8 ≤ Int32.toNatClampNeg x1 then False else (am_E S 127 (d + 1) 0 0 9 [.ref 1, .int x1, .int (I 7 (Int32.toNatClampNeg x1)), .int 0] [] (N, am_ts T, I, L, am_rs r) Q)) from ?_)
  rw [if_neg hp.1]
  replace hp := hp.2
  refine sl_127_9 am_fu hp.1 (fun hk => ?_)
  · replace hp := hp.2
    generalize he_q1 : lp_127_9 am_fu x1 (I 7 (Int32.toNatClampNeg x1)) 0 I L = q1 at hq hp hk ⊢
    refine am_E.run [] 2000 (show (True ∧ Q (some (.int (q1.2.2.1 &&& ((I 1 3) ^^^ (-1))))) (N, am_ts T, I, L, am_rs r)) from ?_)
    exact ⟨trivial, hq⟩
def lp_128_5 : Nat → Int32 → Int32 → Int32 → Int32 → (Nat → Nat → Int32) → (Nat → Nat → Int64) → Nat × Int32 × Int32 × Int32
  | 0, v1, v2, v3, v4, I, L => (0, 0, v3, v4)
  | n + 1, v1, v2, v3, v4, I, L =>
    if (I 1 2) ≤ v4 then
      (0, 0, v3, v4)
    else
      let q0 := f_20 v2 (I 2 (Int32.toNatClampNeg v4));
      if q0 = 1 then
        let q1 := f_20 v1 v4;
        if q1 = 1 then
          lp_128_5 n v1 v2 (v3 ||| ((1 <<< ((I 2 (Int32.toNatClampNeg v4)) &&& 31)) ||| (1 <<< ((I 3 (Int32.toNatClampNeg v4)) &&& 31)))) (v4 + 1) I L
        else
          lp_128_5 n v1 v2 v3 (v4 + 1) I L
      else
        let q2 := f_20 v2 (I 3 (Int32.toNatClampNeg v4));
        if q2 = 1 then
          let q3 := f_20 v1 v4;
          if q3 = 1 then
            lp_128_5 n v1 v2 (v3 ||| ((1 <<< ((I 2 (Int32.toNatClampNeg v4)) &&& 31)) ||| (1 <<< ((I 3 (Int32.toNatClampNeg v4)) &&& 31)))) (v4 + 1) I L
          else
            lp_128_5 n v1 v2 v3 (v4 + 1) I L
        else
          lp_128_5 n v1 v2 v3 (v4 + 1) I L
def lq_128_5 : Nat → Int32 → Int32 → Int32 → Int32 → (Nat → Nat → Int32) → (Nat → Nat → Int64) → Prop
  | 0, v1, v2, v3, v4, I, L => False
  | n + 1, v1, v2, v3, v4, I, L =>
    if (I 1 2) ≤ v4 then
      True
    else
      ¬ (v4 < 0 ∨ 12 ≤ Int32.toNatClampNeg v4) ∧
      (let q0 := f_20 v2 (I 2 (Int32.toNatClampNeg v4));
        if q0 = 1 then
          (let q1 := f_20 v1 v4;
            if q1 = 1 then
              ¬ (v4 < 0 ∨ 12 ≤ Int32.toNatClampNeg v4) ∧
              ¬ (v4 < 0 ∨ 12 ≤ Int32.toNatClampNeg v4) ∧
              lq_128_5 n v1 v2 (v3 ||| ((1 <<< ((I 2 (Int32.toNatClampNeg v4)) &&& 31)) ||| (1 <<< ((I 3 (Int32.toNatClampNeg v4)) &&& 31)))) (v4 + 1) I L
            else
              lq_128_5 n v1 v2 v3 (v4 + 1) I L)
        else
          ¬ (v4 < 0 ∨ 12 ≤ Int32.toNatClampNeg v4) ∧
          (let q2 := f_20 v2 (I 3 (Int32.toNatClampNeg v4));
            if q2 = 1 then
              (let q3 := f_20 v1 v4;
                if q3 = 1 then
                  ¬ (v4 < 0 ∨ 12 ≤ Int32.toNatClampNeg v4) ∧
                  ¬ (v4 < 0 ∨ 12 ≤ Int32.toNatClampNeg v4) ∧
                  lq_128_5 n v1 v2 (v3 ||| ((1 <<< ((I 2 (Int32.toNatClampNeg v4)) &&& 31)) ||| (1 <<< ((I 3 (Int32.toNatClampNeg v4)) &&& 31)))) (v4 + 1) I L
                else
                  lq_128_5 n v1 v2 v3 (v4 + 1) I L)
            else
              lq_128_5 n v1 v2 v3 (v4 + 1) I L))
set_option maxRecDepth 100000 in
theorem sl_128_5 {S : am_S} {d N : Nat} {T : Nat → Nat × Nat} {r : Nat → Nat → Option Nat} {Q : am_Q} : ∀ (n : Nat) {v1 : Int32} {v2 : Int32} {v3 : Int32} {v4 : Int32} {I : Nat → Nat → Int32} {L : Nat → Nat → Int64} (hp : lq_128_5 n v1 v2 v3 v4 I L) (h0 : (lp_128_5 n v1 v2 v3 v4 I L).1 = 0 → am_E S 128 (d + 1) 0 0 94 [.ref 1, .int v1, .int v2, .int (lp_128_5 n v1 v2 v3 v4 I L).2.2.1, .int (lp_128_5 n v1 v2 v3 v4 I L).2.2.2, am_jk] [] (N, am_ts T, I, L, am_rs r) Q), am_E S 128 (d + 1) 0 0 5 [.ref 1, .int v1, .int v2, .int v3, .int v4, am_jk] [] (N, am_ts T, I, L, am_rs r) Q
  | 0, _, _, _, _, _, _, hp, _ => hp.elim
  | n + 1, v1, v2, v3, v4, I, L, hp, h0 => by
    have ih := @sl_128_5 S d N T r Q n
    unfold lp_128_5 at h0
    unfold lq_128_5 at hp
    try dsimp only at h0 hp
    refine am_E.run [22, 94] 2000 (show (if (I 1 2) ≤ v4 then (am_E S 128 (d + 1) 0 0 94 [.ref 1, .int v1, .int v2, .int v3, .int v4, am_jk] [] (N, am_ts T, I, L, am_rs r) Q) else (if v4 < 0 ∨ 12 ≤ Int32.toNatClampNeg v4 then False else (am_E S 128 (d + 1) 0 0 22 [.ref 1, .int v1, .int v2, .int v3, .int v4, am_jk] [.int (I 2 (Int32.toNatClampNeg v4)), .int v2] (N, am_ts T, I, L, am_rs r) Q))) from ?_)
    by_cases hc : (I 1 2) ≤ v4
    · rw [if_pos hc] at h0 hp ⊢
      exact h0 rfl
    · rw [if_neg hc] at h0 hp ⊢
      rw [if_neg hp.1]
      replace hp := hp.2
      refine am_E.go ⟨fun v h9 => v = some (.int (f_20 v2 (I 2 (Int32.toNatClampNeg v4)))) ∧ h9 = (N, am_ts T, I, L, am_rs r), s_20 ⟨rfl, rfl⟩, ?_⟩
      intro v h9 hv
      obtain ⟨rfl, rfl⟩ := hv
      generalize he_q0 : f_20 v2 (I 2 (Int32.toNatClampNeg v4)) = q0 at h0 hp ⊢
      refine am_E.run [37, 59] 2000 (show (if q0 = 1 then (am_E S 128 (d + 1) 0 0 59 [.ref 1, .int v1, .int v2, .int v3, .int v4, .int 1] [.int v4, .int v1] (N, am_ts T, I, L, am_rs r) Q) else (if v4 < 0 ∨ 12 ≤ Int32.toNatClampNeg v4 then False else (am_E S 128 (d + 1) 0 0 37 [.ref 1, .int v1, .int v2, .int v3, .int v4, am_jk] [.int (I 3 (Int32.toNatClampNeg v4)), .int v2] (N, am_ts T, I, L, am_rs r) Q))) from ?_)
      by_cases hc : q0 = 1
      · rw [if_pos hc] at h0 hp ⊢
        refine am_E.go ⟨fun v h9 => v = some (.int (f_20 v1 v4)) ∧ h9 = (N, am_ts T, I, L, am_rs r), s_20 ⟨rfl, rfl⟩, ?_⟩
        intro v h9 hv
        obtain ⟨rfl, rfl⟩ := hv
        generalize he_q1 : f_20 v1 v4 = q1 at h0 hp ⊢
        refine am_E.run [5] 2000 (show (if q1 = 1 then (if v4 < 0 ∨ 12 ≤ Int32.toNatClampNeg v4 then False else (if v4 < 0 ∨ 12 ≤ Int32.toNatClampNeg v4 then False else (am_E S 128 (d + 1) 0 0 5 [.ref 1, .int v1, .int v2, .int (v3 ||| ((1 <<< ((I 2 (Int32.toNatClampNeg v4)) &&& 31)) ||| (1 <<< ((I 3 (Int32.toNatClampNeg v4)) &&& 31)))), .int (v4 + 1), .int 1] [] (N, am_ts T, I, L, am_rs r) Q))) else (am_E S 128 (d + 1) 0 0 5 [.ref 1, .int v1, .int v2, .int v3, .int (v4 + 1), .int 1] [] (N, am_ts T, I, L, am_rs r) Q)) from ?_)
        by_cases hc : q1 = 1
        · rw [if_pos hc] at h0 hp ⊢
          rw [if_neg hp.1]
          replace hp := hp.2
          rw [if_neg hp.1]
          replace hp := hp.2
          exact am_E.junk (ih hp h0) (am_le.cons (am_le.cons (am_le.cons (am_le.cons (am_le.cons (am_le.jk am_le.nil))))))
        · rw [if_neg hc] at h0 hp ⊢
          exact am_E.junk (ih hp h0) (am_le.cons (am_le.cons (am_le.cons (am_le.cons (am_le.cons (am_le.jk am_le.nil))))))
      · rw [if_neg hc] at h0 hp ⊢
        rw [if_neg hp.1]
        replace hp := hp.2
        refine am_E.go ⟨fun v h9 => v = some (.int (f_20 v2 (I 3 (Int32.toNatClampNeg v4)))) ∧ h9 = (N, am_ts T, I, L, am_rs r), s_20 ⟨rfl, rfl⟩, ?_⟩
        intro v h9 hv
        obtain ⟨rfl, rfl⟩ := hv
        generalize he_q2 : f_20 v2 (I 3 (Int32.toNatClampNeg v4)) = q2 at h0 hp ⊢
        refine am_E.run [5, 59] 2000 (show (if q2 = 1 then (am_E S 128 (d + 1) 0 0 59 [.ref 1, .int v1, .int v2, .int v3, .int v4, .int 1] [.int v4, .int v1] (N, am_ts T, I, L, am_rs r) Q) else (am_E S 128 (d + 1) 0 0 5 [.ref 1, .int v1, .int v2, .int v3, .int (v4 + 1), .int 0] [] (N, am_ts T, I, L, am_rs r) Q)) from ?_)
        by_cases hc : q2 = 1
        · rw [if_pos hc] at h0 hp ⊢
          refine am_E.go ⟨fun v h9 => v = some (.int (f_20 v1 v4)) ∧ h9 = (N, am_ts T, I, L, am_rs r), s_20 ⟨rfl, rfl⟩, ?_⟩
          intro v h9 hv
          obtain ⟨rfl, rfl⟩ := hv
          generalize he_q3 : f_20 v1 v4 = q3 at h0 hp ⊢
          refine am_E.run [5] 2000 (show (if q3 = 1 then (if v4 < 0 ∨ 12 ≤ Int32.toNatClampNeg v4 then False else (if v4 < 0 ∨ 12 ≤ Int32.toNatClampNeg v4 then False else (am_E S 128 (d + 1) 0 0 5 [.ref 1, .int v1, .int v2, .int (v3 ||| ((1 <<< ((I 2 (Int32.toNatClampNeg v4)) &&& 31)) ||| (1 <<< ((I 3 (Int32.toNatClampNeg v4)) &&& 31)))), .int (v4 + 1), .int 1] [] (N, am_ts T, I, L, am_rs r) Q))) else (am_E S 128 (d + 1) 0 0 5 [.ref 1, .int v1, .int v2, .int v3, .int (v4 + 1), .int 1] [] (N, am_ts T, I, L, am_rs r) Q)) from ?_)
          by_cases hc : q3 = 1
          · rw [if_pos hc] at h0 hp ⊢
            rw [if_neg hp.1]
            replace hp := hp.2
            rw [if_neg hp.1]
            replace hp := hp.2
            exact am_E.junk (ih hp h0) (am_le.cons (am_le.cons (am_le.cons (am_le.cons (am_le.cons (am_le.jk am_le.nil))))))
          · rw [if_neg hc] at h0 hp ⊢
            exact am_E.junk (ih hp h0) (am_le.cons (am_le.cons (am_le.cons (am_le.cons (am_le.cons (am_le.jk am_le.nil))))))
        · rw [if_neg hc] at h0 hp ⊢
          exact am_E.junk (ih hp h0) (am_le.cons (am_le.cons (am_le.cons (am_le.cons (am_le.cons (am_le.jk am_le.nil))))))
/-- KeyKeepers$Doors.oneDoorOn(LKeyKeepers$Prison;II)I -/
def f_128 (x1 : Int32) (x2 : Int32) (I : Nat → Nat → Int32) (L : Nat → Nat → Int64) : Int32 :=
  let q4 := lp_128_5 am_fu x1 x2 x2 0 I L;
  q4.2.2.1
def p_128 (x1 : Int32) (x2 : Int32) (I : Nat → Nat → Int32) (L : Nat → Nat → Int64) : Prop :=
  lq_128_5 am_fu x1 x2 x2 0 I L ∧
  (let q4 := lp_128_5 am_fu x1 x2 x2 0 I L;
    True)
set_option maxRecDepth 100000 in
theorem s_128 {S : am_S} {d N : Nat} {T : Nat → Nat × Nat} {I : Nat → Nat → Int32} {L : Nat → Nat → Int64} {r : Nat → Nat → Option Nat} {Q : am_Q} {x1 : Int32} {x2 : Int32} (hp : p_128 x1 x2 I L) (hq : Q (some (.int (f_128 x1 x2 I L))) (N, am_ts T, I, L, am_rs r)) : am_E S 128 (d + 1) 0 0 0 [.ref 1, .int x1, .int x2, am_jk, am_jk, am_jk] [] (N, am_ts T, I, L, am_rs r) Q := by
  unfold f_128 at hq
  unfold p_128 at hp
  try dsimp only at hq hp
  refine am_E.run [5] 2000 (show (am_E S 128 (d + 1) 0 0 5 [.ref 1, .int x1, .int x2, .int x2, .int 0, am_jk] [] (N, am_ts T, I, L, am_rs r) Q) from ?_)
  refine sl_128_5 am_fu hp.1 (fun hk => ?_)
  · replace hp := hp.2
    generalize he_q4 : lp_128_5 am_fu x1 x2 x2 0 I L = q4 at hq hp hk ⊢
    refine am_E.run [] 2000 (show (True ∧ Q (some (.int q4.2.2.1)) (N, am_ts T, I, L, am_rs r)) from ?_)
    exact ⟨trivial, hq⟩
def lp_131_2 : Nat → Int32 → Int32 → (Nat → Nat → Int32) → (Nat → Nat → Int64) → Nat × Int32 × Int32 × (Nat → Nat → Int32) × (Nat → Nat → Int64)
  | 0, v2, v3, I, L => (0, 0, v3, I, L)
  | n + 1, v2, v3, I, L =>
    if (10 : Int32) ≤ v3 then
      (0, 0, v3, I, L)
    else
      lp_131_2 n v2 (v3 + 1) (am_u I 57 (Int32.toNatClampNeg v3) 0) L
def lq_131_2 : Nat → Int32 → Int32 → (Nat → Nat → Int32) → (Nat → Nat → Int64) → Prop
  | 0, v2, v3, I, L => False
  | n + 1, v2, v3, I, L =>
    if (10 : Int32) ≤ v3 then
      True
    else
      ¬ (v3 < 0 ∨ 10 ≤ Int32.toNatClampNeg v3) ∧
      lq_131_2 n v2 (v3 + 1) (am_u I 57 (Int32.toNatClampNeg v3) 0) L
set_option maxRecDepth 100000 in
theorem sl_131_2 {S : am_S} {d N : Nat} {T : Nat → Nat × Nat} {r : Nat → Nat → Option Nat} {Q : am_Q} : ∀ (n : Nat) {v2 : Int32} {v3 : Int32} {I : Nat → Nat → Int32} {L : Nat → Nat → Int64} (hp : lq_131_2 n v2 v3 I L) (h0 : (lp_131_2 n v2 v3 I L).1 = 0 → am_E S 131 (d + 1) 0 0 21 [.ref 55, .ref 1, .int v2, .int (lp_131_2 n v2 v3 I L).2.2.1] [] (N, am_ts T, (lp_131_2 n v2 v3 I L).2.2.2.1, (lp_131_2 n v2 v3 I L).2.2.2.2, am_rs r) Q), am_E S 131 (d + 1) 0 0 2 [.ref 55, .ref 1, .int v2, .int v3] [] (N, am_ts T, I, L, am_rs r) Q
  | 0, _, _, _, _, hp, _ => hp.elim
  | n + 1, v2, v3, I, L, hp, h0 => by
    have ih := @sl_131_2 S d N T r Q n
    unfold lp_131_2 at h0
    unfold lq_131_2 at hp
    try dsimp only at h0 hp
    refine am_E.run [2, 21] 2000 (show (if (10 : Int32) ≤ v3 then (am_E S 131 (d + 1) 0 0 21 [.ref 55, .ref 1, .int v2, .int v3] [] (N, am_ts T, I, L, am_rs r) Q) else (if v3 < 0 ∨ 10 ≤ Int32.toNatClampNeg v3 then False else (am_E S 131 (d + 1) 0 0 2 [.ref 55, .ref 1, .int v2, .int (v3 + 1)] [] (N, am_ts T, (am_u I 57 (Int32.toNatClampNeg v3) 0), L, am_rs r) Q))) from ?_)
    by_cases hc : (10 : Int32) ≤ v3
    · rw [if_pos hc] at h0 hp ⊢
      exact h0 rfl
    · rw [if_neg hc] at h0 hp ⊢
      rw [if_neg hp.1]
      replace hp := hp.2
      exact ih hp h0
def lp_131_23 : Nat → Int32 → Int32 → (Nat → Nat → Int32) → (Nat → Nat → Int64) → Nat × Int32 × Int32 × (Nat → Nat → Int32) × (Nat → Nat → Int64)
  | 0, v2, v3, I, L => (0, 0, v3, I, L)
  | n + 1, v2, v3, I, L =>
    if (I 1 2) ≤ v3 then
      (0, 0, v3, I, L)
    else
      let q1 := f_20 v2 v3;
      if q1 = 1 then
        lp_131_23 n v2 (v3 + 1) (am_u (am_u I 57 (Int32.toNatClampNeg (I 2 (Int32.toNatClampNeg v3))) ((I 57 (Int32.toNatClampNeg (I 2 (Int32.toNatClampNeg v3)))) ||| (1 <<< (v3 &&& 31)))) 57 (Int32.toNatClampNeg (I 3 (Int32.toNatClampNeg v3))) (((am_u I 57 (Int32.toNatClampNeg (I 2 (Int32.toNatClampNeg v3))) ((I 57 (Int32.toNatClampNeg (I 2 (Int32.toNatClampNeg v3)))) ||| (1 <<< (v3 &&& 31)))) 57 (Int32.toNatClampNeg (I 3 (Int32.toNatClampNeg v3)))) ||| (1 <<< (v3 &&& 31)))) L
      else
        lp_131_23 n v2 (v3 + 1) I L
def lq_131_23 : Nat → Int32 → Int32 → (Nat → Nat → Int32) → (Nat → Nat → Int64) → Prop
  | 0, v2, v3, I, L => False
  | n + 1, v2, v3, I, L =>
    if (I 1 2) ≤ v3 then
      True
    else
      (let q1 := f_20 v2 v3;
        if q1 = 1 then
          ¬ (v3 < 0 ∨ 12 ≤ Int32.toNatClampNeg v3) ∧
          ¬ ((I 2 (Int32.toNatClampNeg v3)) < 0 ∨ 10 ≤ Int32.toNatClampNeg (I 2 (Int32.toNatClampNeg v3))) ∧
          ¬ ((I 2 (Int32.toNatClampNeg v3)) < 0 ∨ 10 ≤ Int32.toNatClampNeg (I 2 (Int32.toNatClampNeg v3))) ∧
          ¬ (v3 < 0 ∨ 12 ≤ Int32.toNatClampNeg v3) ∧
          ¬ ((I 3 (Int32.toNatClampNeg v3)) < 0 ∨ 10 ≤ Int32.toNatClampNeg (I 3 (Int32.toNatClampNeg v3))) ∧
          ¬ ((I 3 (Int32.toNatClampNeg v3)) < 0 ∨ 10 ≤ Int32.toNatClampNeg (I 3 (Int32.toNatClampNeg v3))) ∧
          lq_131_23 n v2 (v3 + 1) (am_u (am_u I 57 (Int32.toNatClampNeg (I 2 (Int32.toNatClampNeg v3))) ((I 57 (Int32.toNatClampNeg (I 2 (Int32.toNatClampNeg v3)))) ||| (1 <<< (v3 &&& 31)))) 57 (Int32.toNatClampNeg (I 3 (Int32.toNatClampNeg v3))) (((am_u I 57 (Int32.toNatClampNeg (I 2 (Int32.toNatClampNeg v3))) ((I 57 (Int32.toNatClampNeg (I 2 (Int32.toNatClampNeg v3)))) ||| (1 <<< (v3 &&& 31)))) 57 (Int32.toNatClampNeg (I 3 (Int32.toNatClampNeg v3)))) ||| (1 <<< (v3 &&& 31)))) L
        else
          lq_131_23 n v2 (v3 + 1) I L)
set_option maxRecDepth 100000 in
theorem sl_131_23 {S : am_S} {d N : Nat} {T : Nat → Nat × Nat} {r : Nat → Nat → Option Nat} {Q : am_Q} : ∀ (n : Nat) {v2 : Int32} {v3 : Int32} {I : Nat → Nat → Int32} {L : Nat → Nat → Int64} (hp : lq_131_23 n v2 v3 I L) (h0 : (lp_131_23 n v2 v3 I L).1 = 0 → am_E S 131 (d + 1) 0 0 80 [.ref 55, .ref 1, .int v2, .int (lp_131_23 n v2 v3 I L).2.2.1] [] (N, am_ts T, (lp_131_23 n v2 v3 I L).2.2.2.1, (lp_131_23 n v2 v3 I L).2.2.2.2, am_rs r) Q), am_E S 131 (d + 1) 0 0 23 [.ref 55, .ref 1, .int v2, .int v3] [] (N, am_ts T, I, L, am_rs r) Q
  | 0, _, _, _, _, hp, _ => hp.elim
  | n + 1, v2, v3, I, L, hp, h0 => by
    have ih := @sl_131_23 S d N T r Q n
    unfold lp_131_23 at h0
    unfold lq_131_23 at hp
    try dsimp only at h0 hp
    refine am_E.run [33, 80] 2000 (show (if (I 1 2) ≤ v3 then (am_E S 131 (d + 1) 0 0 80 [.ref 55, .ref 1, .int v2, .int v3] [] (N, am_ts T, I, L, am_rs r) Q) else (am_E S 131 (d + 1) 0 0 33 [.ref 55, .ref 1, .int v2, .int v3] [.int v3, .int v2] (N, am_ts T, I, L, am_rs r) Q)) from ?_)
    by_cases hc : (I 1 2) ≤ v3
    · rw [if_pos hc] at h0 hp ⊢
      exact h0 rfl
    · rw [if_neg hc] at h0 hp ⊢
      refine am_E.go ⟨fun v h9 => v = some (.int (f_20 v2 v3)) ∧ h9 = (N, am_ts T, I, L, am_rs r), s_20 ⟨rfl, rfl⟩, ?_⟩
      intro v h9 hv
      obtain ⟨rfl, rfl⟩ := hv
      generalize he_q1 : f_20 v2 v3 = q1 at h0 hp ⊢
      refine am_E.run [23] 2000 (show (if q1 = 1 then (if v3 < 0 ∨ 12 ≤ Int32.toNatClampNeg v3 then False else (if (I 2 (Int32.toNatClampNeg v3)) < 0 ∨ 10 ≤ Int32.toNatClampNeg (I 2 (Int32.toNatClampNeg v3)) then False else (if (I 2 (Int32.toNatClampNeg v3)) < 0 ∨ 10 ≤ Int32.toNatClampNeg (I 2 (Int32.toNatClampNeg v3)) then False else (if v3 < 0 ∨ 12 ≤ Int32.toNatClampNeg v3 then False else (if (I 3 (Int32.toNatClampNeg v3)) < 0 ∨ 10 ≤ Int32.toNatClampNeg (I 3 (Int32.toNatClampNeg v3)) then False else (if (I 3 (Int32.toNatClampNeg v3)) < 0 ∨ 10 ≤ Int32.toNatClampNeg (I 3 (Int32.toNatClampNeg v3)) then False else (am_E S 131 (d + 1) 0 0 23 [.ref 55, .ref 1, .int v2, .int (v3 + 1)] [] (N, am_ts T, (am_u (am_u I 57 (Int32.toNatClampNeg (I 2 (Int32.toNatClampNeg v3))) ((I 57 (Int32.toNatClampNeg (I 2 (Int32.toNatClampNeg v3)))) ||| (1 <<< (v3 &&& 31)))) 57 (Int32.toNatClampNeg (I 3 (Int32.toNatClampNeg v3))) (((am_u I 57 (Int32.toNatClampNeg (I 2 (Int32.toNatClampNeg v3))) ((I 57 (Int32.toNatClampNeg (I 2 (Int32.toNatClampNeg v3)))) ||| (1 <<< (v3 &&& 31)))) 57 (Int32.toNatClampNeg (I 3 (Int32.toNatClampNeg v3)))) ||| (1 <<< (v3 &&& 31)))), L, am_rs r) Q))))))) else (am_E S 131 (d + 1) 0 0 23 [.ref 55, .ref 1, .int v2, .int (v3 + 1)] [] (N, am_ts T, I, L, am_rs r) Q)) from ?_)
      by_cases hc : q1 = 1
      · rw [if_pos hc] at h0 hp ⊢
        rw [if_neg hp.1]
        replace hp := hp.2
        rw [if_neg hp.1]
        replace hp := hp.2
        rw [if_neg hp.1]
        replace hp := hp.2
        rw [if_neg hp.1]
        replace hp := hp.2
        rw [if_neg hp.1]
        replace hp := hp.2
        rw [if_neg hp.1]
        replace hp := hp.2
        exact ih hp h0
      · rw [if_neg hc] at h0 hp ⊢
        exact ih hp h0
/-- KeyKeepers$Doors.findDoorsAt(LKeyKeepers$Prison;I)V -/
def f_131 (x1 : Int32) (I : Nat → Nat → Int32) (L : Nat → Nat → Int64) : Int32 × (Nat → Nat → Int32) × (Nat → Nat → Int64) :=
  let q0 := lp_131_2 am_fu x1 0 I L;
  let q2 := lp_131_23 am_fu x1 0 q0.2.2.2.1 q0.2.2.2.2;
  (0, q2.2.2.2.1, q2.2.2.2.2)
def p_131 (x1 : Int32) (I : Nat → Nat → Int32) (L : Nat → Nat → Int64) : Prop :=
  lq_131_2 am_fu x1 0 I L ∧
  (let q0 := lp_131_2 am_fu x1 0 I L;
    lq_131_23 am_fu x1 0 q0.2.2.2.1 q0.2.2.2.2 ∧
    (let q2 := lp_131_23 am_fu x1 0 q0.2.2.2.1 q0.2.2.2.2;
      True))
set_option maxRecDepth 100000 in
theorem s_131 {S : am_S} {d N : Nat} {T : Nat → Nat × Nat} {I : Nat → Nat → Int32} {L : Nat → Nat → Int64} {r : Nat → Nat → Option Nat} {Q : am_Q} {x1 : Int32} (hp : p_131 x1 I L) (hq : Q (none) (N, am_ts T, (f_131 x1 I L).2.1, (f_131 x1 I L).2.2, am_rs r)) : am_E S 131 (d + 1) 0 0 0 [.ref 55, .ref 1, .int x1, am_jk] [] (N, am_ts T, I, L, am_rs r) Q := by
  unfold f_131 at hq
  unfold p_131 at hp
  try dsimp only at hq hp
  refine am_E.run [2] 2000 (show (am_E S 131 (d + 1) 0 0 2 [.ref 55, .ref 1, .int x1, .int 0] [] (N, am_ts T, I, L, am_rs r) Q) from ?_)
  refine sl_131_2 am_fu hp.1 (fun hk => ?_)
  · replace hp := hp.2
    generalize he_q0 : lp_131_2 am_fu x1 0 I L = q0 at hq hp hk ⊢
    refine am_E.run [23] 2000 (show (am_E S 131 (d + 1) 0 0 23 [.ref 55, .ref 1, .int x1, .int 0] [] (N, am_ts T, q0.2.2.2.1, q0.2.2.2.2, am_rs r) Q) from ?_)
    refine sl_131_23 am_fu hp.1 (fun hk => ?_)
    · replace hp := hp.2
      generalize he_q2 : lp_131_23 am_fu x1 0 q0.2.2.2.1 q0.2.2.2.2 = q2 at hq hp hk ⊢
      refine am_E.run [] 2000 (show (True ∧ Q (none) (N, am_ts T, q2.2.2.2.1, q2.2.2.2.2, am_rs r)) from ?_)
      exact ⟨trivial, hq⟩
def lp_132_4 : Nat → Int32 → Int32 → Int32 → (Nat → Nat → Int32) → (Nat → Nat → Int64) → Nat × Int32 × Int32 × Int32 × (Nat → Nat → Int32) × (Nat → Nat → Int64)
  | 0, v1, v2, v3, I, L => (0, 0, v2, v3, I, L)
  | n + 1, v1, v2, v3, I, L =>
    if (10 : Int32) ≤ v3 then
      (0, 0, v2, v3, I, L)
    else
      if v3 = v1 then
        lp_132_4 n v1 v2 (v3 + 1) I L
      else
        if (I 57 (Int32.toNatClampNeg v3)) = 0 then
          lp_132_4 n v1 v2 (v3 + 1) I L
        else
          lp_132_4 n v1 (v2 + 1) (v3 + 1) (am_u I 58 (Int32.toNatClampNeg v2) v3) L
def lq_132_4 : Nat → Int32 → Int32 → Int32 → (Nat → Nat → Int32) → (Nat → Nat → Int64) → Prop
  | 0, v1, v2, v3, I, L => False
  | n + 1, v1, v2, v3, I, L =>
    if (10 : Int32) ≤ v3 then
      True
    else
      if v3 = v1 then
        lq_132_4 n v1 v2 (v3 + 1) I L
      else
        ¬ (v3 < 0 ∨ 10 ≤ Int32.toNatClampNeg v3) ∧
        if (I 57 (Int32.toNatClampNeg v3)) = 0 then
          lq_132_4 n v1 v2 (v3 + 1) I L
        else
          ¬ (v2 < 0 ∨ 10 ≤ Int32.toNatClampNeg v2) ∧
          lq_132_4 n v1 (v2 + 1) (v3 + 1) (am_u I 58 (Int32.toNatClampNeg v2) v3) L
set_option maxRecDepth 100000 in
theorem sl_132_4 {S : am_S} {d N : Nat} {T : Nat → Nat × Nat} {r : Nat → Nat → Option Nat} {Q : am_Q} : ∀ (n : Nat) {v1 : Int32} {v2 : Int32} {v3 : Int32} {I : Nat → Nat → Int32} {L : Nat → Nat → Int64} (hp : lq_132_4 n v1 v2 v3 I L) (h0 : (lp_132_4 n v1 v2 v3 I L).1 = 0 → am_E S 132 (d + 0) 0 0 40 [.ref 55, .int v1, .int (lp_132_4 n v1 v2 v3 I L).2.2.1, .int (lp_132_4 n v1 v2 v3 I L).2.2.2.1] [] (N, am_ts T, (lp_132_4 n v1 v2 v3 I L).2.2.2.2.1, (lp_132_4 n v1 v2 v3 I L).2.2.2.2.2, am_rs r) Q), am_E S 132 (d + 0) 0 0 4 [.ref 55, .int v1, .int v2, .int v3] [] (N, am_ts T, I, L, am_rs r) Q
  | 0, _, _, _, _, _, hp, _ => hp.elim
  | n + 1, v1, v2, v3, I, L, hp, h0 => by
    have ih := @sl_132_4 S d N T r Q n
    unfold lp_132_4 at h0
    unfold lq_132_4 at hp
    try dsimp only at h0 hp
    refine am_E.run [4, 40] 2000 (show (if (10 : Int32) ≤ v3 then (am_E S 132 (d + 0) 0 0 40 [.ref 55, .int v1, .int v2, .int v3] [] (N, am_ts T, I, L, am_rs r) Q) else (if v3 = v1 then (am_E S 132 (d + 0) 0 0 4 [.ref 55, .int v1, .int v2, .int (v3 + 1)] [] (N, am_ts T, I, L, am_rs r) Q) else (if v3 < 0 ∨ 10 ≤ Int32.toNatClampNeg v3 then False else (if (I 57 (Int32.toNatClampNeg v3)) = 0 then (am_E S 132 (d + 0) 0 0 4 [.ref 55, .int v1, .int v2, .int (v3 + 1)] [] (N, am_ts T, I, L, am_rs r) Q) else (if v2 < 0 ∨ 10 ≤ Int32.toNatClampNeg v2 then False else (am_E S 132 (d + 0) 0 0 4 [.ref 55, .int v1, .int (v2 + 1), .int (v3 + 1)] [] (N, am_ts T, (am_u I 58 (Int32.toNatClampNeg v2) v3), L, am_rs r) Q)))))) from ?_)
    by_cases hc : (10 : Int32) ≤ v3
    · rw [if_pos hc] at h0 hp ⊢
      exact h0 rfl
    · rw [if_neg hc] at h0 hp ⊢
      by_cases hc : v3 = v1
      · rw [if_pos hc] at h0 hp ⊢
        exact ih hp h0
      · rw [if_neg hc] at h0 hp ⊢
        rw [if_neg hp.1]
        replace hp := hp.2
        by_cases hc : (I 57 (Int32.toNatClampNeg v3)) = 0
        · rw [if_pos hc] at h0 hp ⊢
          exact ih hp h0
        · rw [if_neg hc] at h0 hp ⊢
          rw [if_neg hp.1]
          replace hp := hp.2
          exact ih hp h0
/-- KeyKeepers$Doors.findBetween(I)I -/
def f_132 (x0 : Int32) (I : Nat → Nat → Int32) (L : Nat → Nat → Int64) : Int32 × (Nat → Nat → Int32) × (Nat → Nat → Int64) :=
  let q0 := lp_132_4 am_fu x0 0 1 I L;
  (q0.2.2.1, q0.2.2.2.2.1, q0.2.2.2.2.2)
def p_132 (x0 : Int32) (I : Nat → Nat → Int32) (L : Nat → Nat → Int64) : Prop :=
  lq_132_4 am_fu x0 0 1 I L ∧
  (let q0 := lp_132_4 am_fu x0 0 1 I L;
    True)
set_option maxRecDepth 100000 in
theorem s_132 {S : am_S} {d N : Nat} {T : Nat → Nat × Nat} {I : Nat → Nat → Int32} {L : Nat → Nat → Int64} {r : Nat → Nat → Option Nat} {Q : am_Q} {x0 : Int32} (hp : p_132 x0 I L) (hq : Q (some (.int (f_132 x0 I L).1)) (N, am_ts T, (f_132 x0 I L).2.1, (f_132 x0 I L).2.2, am_rs r)) : am_E S 132 (d + 0) 0 0 0 [.ref 55, .int x0, am_jk, am_jk] [] (N, am_ts T, I, L, am_rs r) Q := by
  unfold f_132 at hq
  unfold p_132 at hp
  try dsimp only at hq hp
  refine am_E.run [4] 2000 (show (am_E S 132 (d + 0) 0 0 4 [.ref 55, .int x0, .int 0, .int 1] [] (N, am_ts T, I, L, am_rs r) Q) from ?_)
  refine sl_132_4 am_fu hp.1 (fun hk => ?_)
  · replace hp := hp.2
    generalize he_q0 : lp_132_4 am_fu x0 0 1 I L = q0 at hq hp hk ⊢
    refine am_E.run [] 2000 (show (True ∧ Q (some (.int q0.2.2.1)) (N, am_ts T, q0.2.2.2.2.1, q0.2.2.2.2.2, am_rs r)) from ?_)
    exact ⟨trivial, hq⟩
/-- KeyKeepers$Rota.oneShare(I)I -/
def f_137 (x0 : Int32) : Int32 :=
  (1 <<< ((3 * x0) &&& 31))
set_option maxRecDepth 100000 in
theorem s_137 {S : am_S} {d N : Nat} {T : Nat → Nat × Nat} {I : Nat → Nat → Int32} {L : Nat → Nat → Int64} {r : Nat → Nat → Option Nat} {Q : am_Q} {x0 : Int32} (hq : Q (some (.int (f_137 x0))) (N, am_ts T, I, L, am_rs r)) : am_E S 137 (d + 0) 0 0 0 [.int x0] [] (N, am_ts T, I, L, am_rs r) Q := by
  unfold f_137 at hq
  try dsimp only at hq
  refine am_E.run [] 2000 (show (True ∧ Q (some (.int (1 <<< ((3 * x0) &&& 31)))) (N, am_ts T, I, L, am_rs r)) from ?_)
  exact ⟨trivial, hq⟩
/-- KeyKeepers$Doors.trustEachOther(LKeyKeepers$Prison;II)Z -/
def f_149 (x1 : Int32) (x2 : Int32) (I : Nat → Nat → Int32) : Int32 :=
  let q0 := f_20 (I 8 (Int32.toNatClampNeg x1)) x2;
  if q0 = 1 then
    let q1 := f_20 (I 8 (Int32.toNatClampNeg x2)) x1;
    if q1 = 1 then
      1
    else
      0
  else
    0
def p_149 (x1 : Int32) (x2 : Int32) (I : Nat → Nat → Int32) : Prop :=
  ¬ (x1 < 0 ∨ 8 ≤ Int32.toNatClampNeg x1) ∧
  (let q0 := f_20 (I 8 (Int32.toNatClampNeg x1)) x2;
    if q0 = 1 then
      ¬ (x2 < 0 ∨ 8 ≤ Int32.toNatClampNeg x2) ∧
      True
    else
      True)
set_option maxRecDepth 100000 in
theorem s_149 {S : am_S} {d N : Nat} {T : Nat → Nat × Nat} {I : Nat → Nat → Int32} {L : Nat → Nat → Int64} {r : Nat → Nat → Option Nat} {Q : am_Q} {x1 : Int32} {x2 : Int32} (hp : p_149 x1 x2 I) (hq : Q (some (.int (f_149 x1 x2 I))) (N, am_ts T, I, L, am_rs r)) : am_E S 149 (d + 1) 0 0 0 [.ref 1, .int x1, .int x2] [] (N, am_ts T, I, L, am_rs r) Q := by
  unfold f_149 at hq
  unfold p_149 at hp
  try dsimp only at hq hp
  refine am_E.run [7] 2000 (show (if x1 < 0 ∨ 8 ≤ Int32.toNatClampNeg x1 then False else (am_E S 149 (d + 1) 0 0 7 [.ref 1, .int x1, .int x2] [.int x2, .int (I 8 (Int32.toNatClampNeg x1))] (N, am_ts T, I, L, am_rs r) Q)) from ?_)
  rw [if_neg hp.1]
  replace hp := hp.2
  refine am_E.go ⟨fun v h9 => v = some (.int (f_20 (I 8 (Int32.toNatClampNeg x1)) x2)) ∧ h9 = (N, am_ts T, I, L, am_rs r), s_20 ⟨rfl, rfl⟩, ?_⟩
  intro v h9 hv
  obtain ⟨rfl, rfl⟩ := hv
  generalize he_q0 : f_20 (I 8 (Int32.toNatClampNeg x1)) x2 = q0 at hq hp ⊢
  refine am_E.run [21] 2000 (show (if q0 = 1 then (if x2 < 0 ∨ 8 ≤ Int32.toNatClampNeg x2 then False else (am_E S 149 (d + 1) 0 0 21 [.ref 1, .int x1, .int x2] [.int x1, .int (I 8 (Int32.toNatClampNeg x2))] (N, am_ts T, I, L, am_rs r) Q)) else (((0 : Int32) = 0 ∨ (0 : Int32) = 1) ∧ Q (some (.int 0)) (N, am_ts T, I, L, am_rs r))) from ?_)
  by_cases hc : q0 = 1
  · rw [if_pos hc] at hq hp ⊢
    rw [if_neg hp.1]
    replace hp := hp.2
    refine am_E.go ⟨fun v h9 => v = some (.int (f_20 (I 8 (Int32.toNatClampNeg x2)) x1)) ∧ h9 = (N, am_ts T, I, L, am_rs r), s_20 ⟨rfl, rfl⟩, ?_⟩
    intro v h9 hv
    obtain ⟨rfl, rfl⟩ := hv
    generalize he_q1 : f_20 (I 8 (Int32.toNatClampNeg x2)) x1 = q1 at hq ⊢
    refine am_E.run [] 2000 (show (if q1 = 1 then (((1 : Int32) = 0 ∨ (1 : Int32) = 1) ∧ Q (some (.int 1)) (N, am_ts T, I, L, am_rs r)) else (((0 : Int32) = 0 ∨ (0 : Int32) = 1) ∧ Q (some (.int 0)) (N, am_ts T, I, L, am_rs r))) from ?_)
    by_cases hc : q1 = 1
    · rw [if_pos hc] at hq ⊢
      exact ⟨Or.inr rfl, hq⟩
    · rw [if_neg hc] at hq ⊢
      exact ⟨Or.inl rfl, hq⟩
  · rw [if_neg hc] at hq hp ⊢
    exact ⟨Or.inl rfl, hq⟩
/-- KeyKeepers$Prison.everybody()I -/
def f_153 (I : Nat → Nat → Int32) : Int32 :=
  ((1 <<< ((I 1 10) &&& 31)) - 1)
set_option maxRecDepth 100000 in
theorem s_153 {S : am_S} {d N : Nat} {T : Nat → Nat × Nat} {I : Nat → Nat → Int32} {L : Nat → Nat → Int64} {r : Nat → Nat → Option Nat} {Q : am_Q} (hq : Q (some (.int (f_153 I))) (N, am_ts T, I, L, am_rs r)) : am_E S 153 (d + 0) 0 0 0 [.ref 1] [] (N, am_ts T, I, L, am_rs r) Q := by
  unfold f_153 at hq
  try dsimp only at hq
  refine am_E.run [] 2000 (show (True ∧ Q (some (.int ((1 <<< ((I 1 10) &&& 31)) - 1))) (N, am_ts T, I, L, am_rs r)) from ?_)
  exact ⟨trivial, hq⟩
/-- KeyKeepers$Prison.addCount(II)I -/
def f_154 (x0 : Int32) (x1 : Int32) (I : Nat → Nat → Int32) (L : Nat → Nat → Int64) : Int32 × (Nat → Nat → Int32) × (Nat → Nat → Int64) :=
  if (I 1 13) < 8 then
    (((I 1 13) + 1), (am_u (am_u (am_u I 9 (Int32.toNatClampNeg (I 1 13)) x0) 10 (Int32.toNatClampNeg (I 1 13)) x1) 1 13 ((I 1 13) + 1)), L)
  else
    ((-1), I, L)
def p_154 (x0 : Int32) (x1 : Int32) (I : Nat → Nat → Int32) (L : Nat → Nat → Int64) : Prop :=
  if (I 1 13) < 8 then
    ¬ ((I 1 13) < 0 ∨ 8 ≤ Int32.toNatClampNeg (I 1 13)) ∧
    ¬ ((I 1 13) < 0 ∨ 8 ≤ Int32.toNatClampNeg (I 1 13)) ∧
    True
  else
    True
set_option maxRecDepth 100000 in
theorem s_154 {S : am_S} {d N : Nat} {T : Nat → Nat × Nat} {I : Nat → Nat → Int32} {L : Nat → Nat → Int64} {r : Nat → Nat → Option Nat} {Q : am_Q} {x0 : Int32} {x1 : Int32} (hp : p_154 x0 x1 I L) (hq : Q (some (.int (f_154 x0 x1 I L).1)) (N, am_ts T, (f_154 x0 x1 I L).2.1, (f_154 x0 x1 I L).2.2, am_rs r)) : am_E S 154 (d + 0) 0 0 0 [.ref 1, .int x0, .int x1] [] (N, am_ts T, I, L, am_rs r) Q := by
  unfold f_154 at hq
  unfold p_154 at hp
  try dsimp only at hq hp
  refine am_E.run [] 2000 (show (if (I 1 13) < 8 then (if (I 1 13) < 0 ∨ 8 ≤ Int32.toNatClampNeg (I 1 13) then False else (if (I 1 13) < 0 ∨ 8 ≤ Int32.toNatClampNeg (I 1 13) then False else (True ∧ Q (some (.int ((I 1 13) + 1))) (N, am_ts T, (am_u (am_u (am_u I 9 (Int32.toNatClampNeg (I 1 13)) x0) 10 (Int32.toNatClampNeg (I 1 13)) x1) 1 13 ((I 1 13) + 1)), L, am_rs r)))) else (True ∧ Q (some (.int (-1))) (N, am_ts T, I, L, am_rs r))) from ?_)
  by_cases hc : (I 1 13) < 8
  · rw [if_pos hc] at hq hp ⊢
    rw [if_neg hp.1]
    replace hp := hp.2
    rw [if_neg hp.1]
    replace hp := hp.2
    exact ⟨trivial, hq⟩
  · rw [if_neg hc] at hq hp ⊢
    exact ⟨trivial, hq⟩
/-- KeyKeepers.forget()I -/
def f_155 (I : Nat → Nat → Int32) (L : Nat → Nat → Int64) : Int32 × (Nat → Nat → Int32) × (Nat → Nat → Int64) :=
  ((I 1 13), (am_u I 1 13 0), L)
set_option maxRecDepth 100000 in
theorem s_155 {S : am_S} {d N : Nat} {T : Nat → Nat × Nat} {I : Nat → Nat → Int32} {L : Nat → Nat → Int64} {r : Nat → Nat → Option Nat} {Q : am_Q} (hq : Q (some (.int (f_155 I L).1)) (N, am_ts T, (f_155 I L).2.1, (f_155 I L).2.2, am_rs r)) : am_E S 155 (d + 0) 0 0 0 [.ref 0, am_jk] [] (N, am_ts T, I, L, am_rs r) Q := by
  unfold f_155 at hq
  try dsimp only at hq
  refine am_E.run [] 2000 (show (True ∧ Q (some (.int (I 1 13))) (N, am_ts T, (am_u I 1 13 0), L, am_rs r)) from ?_)
  exact ⟨trivial, hq⟩
def lp_158_2 : Nat → Int32 → Int32 → (Nat → Nat → Int32) → (Nat → Nat → Int64) → Nat × Int32 × Int32
  | 0, v1, v2, I, L => (0, 0, v2)
  | n + 1, v1, v2, I, L =>
    if (I 1 13) ≤ v2 then
      (0, 0, v2)
    else
      let q0 := f_111 ((I 9 (Int32.toNatClampNeg v2)) &&& (v1 ^^^ (-1)));
      if q0 = (I 10 (Int32.toNatClampNeg v2)) then
        lp_158_2 n v1 (v2 + 1) I L
      else
        (1, 0, v2)
def lq_158_2 : Nat → Int32 → Int32 → (Nat → Nat → Int32) → (Nat → Nat → Int64) → Prop
  | 0, v1, v2, I, L => False
  | n + 1, v1, v2, I, L =>
    if (I 1 13) ≤ v2 then
      True
    else
      ¬ (v2 < 0 ∨ 8 ≤ Int32.toNatClampNeg v2) ∧
      (let q0 := f_111 ((I 9 (Int32.toNatClampNeg v2)) &&& (v1 ^^^ (-1)));
        ¬ (v2 < 0 ∨ 8 ≤ Int32.toNatClampNeg v2) ∧
        if q0 = (I 10 (Int32.toNatClampNeg v2)) then
          lq_158_2 n v1 (v2 + 1) I L
        else
          True)
set_option maxRecDepth 100000 in
theorem sl_158_2 {S : am_S} {d N : Nat} {T : Nat → Nat × Nat} {r : Nat → Nat → Option Nat} {Q : am_Q} : ∀ (n : Nat) {v1 : Int32} {v2 : Int32} {I : Nat → Nat → Int32} {L : Nat → Nat → Int64} (hp : lq_158_2 n v1 v2 I L) (h0 : (lp_158_2 n v1 v2 I L).1 = 0 → am_E S 158 (d + 1) 0 0 40 [.ref 1, .int v1, .int (lp_158_2 n v1 v2 I L).2.2] [] (N, am_ts T, I, L, am_rs r) Q) (h1 : (lp_158_2 n v1 v2 I L).1 = 1 → Q (some (.int (lp_158_2 n v1 v2 I L).2.1)) (N, am_ts T, I, L, am_rs r)), am_E S 158 (d + 1) 0 0 2 [.ref 1, .int v1, .int v2] [] (N, am_ts T, I, L, am_rs r) Q
  | 0, _, _, _, _, hp, _, _ => hp.elim
  | n + 1, v1, v2, I, L, hp, h0, h1 => by
    have ih := @sl_158_2 S d N T r Q n
    unfold lp_158_2 at h0 h1
    unfold lq_158_2 at hp
    try dsimp only at h0 h1 hp
    refine am_E.run [20, 40] 2000 (show (if (I 1 13) ≤ v2 then (am_E S 158 (d + 1) 0 0 40 [.ref 1, .int v1, .int v2] [] (N, am_ts T, I, L, am_rs r) Q) else (if v2 < 0 ∨ 8 ≤ Int32.toNatClampNeg v2 then False else (am_E S 158 (d + 1) 0 0 20 [.ref 1, .int v1, .int v2] [.int ((I 9 (Int32.toNatClampNeg v2)) &&& (v1 ^^^ (-1)))] (N, am_ts T, I, L, am_rs r) Q))) from ?_)
    by_cases hc : (I 1 13) ≤ v2
    · rw [if_pos hc] at h0 h1 hp ⊢
      exact h0 rfl
    · rw [if_neg hc] at h0 h1 hp ⊢
      rw [if_neg hp.1]
      replace hp := hp.2
      refine am_E.go ⟨fun v h9 => v = some (.int (f_111 ((I 9 (Int32.toNatClampNeg v2)) &&& (v1 ^^^ (-1))))) ∧ h9 = (N, am_ts T, I, L, am_rs r), s_111 ⟨rfl, rfl⟩, ?_⟩
      intro v h9 hv
      obtain ⟨rfl, rfl⟩ := hv
      generalize he_q0 : f_111 ((I 9 (Int32.toNatClampNeg v2)) &&& (v1 ^^^ (-1))) = q0 at h0 h1 hp ⊢
      refine am_E.run [2] 2000 (show (if v2 < 0 ∨ 8 ≤ Int32.toNatClampNeg v2 then False else (if q0 = (I 10 (Int32.toNatClampNeg v2)) then (am_E S 158 (d + 1) 0 0 2 [.ref 1, .int v1, .int (v2 + 1)] [] (N, am_ts T, I, L, am_rs r) Q) else (((0 : Int32) = 0 ∨ (0 : Int32) = 1) ∧ Q (some (.int 0)) (N, am_ts T, I, L, am_rs r)))) from ?_)
      rw [if_neg hp.1]
      replace hp := hp.2
      by_cases hc : q0 = (I 10 (Int32.toNatClampNeg v2))
      · rw [if_pos hc] at h0 h1 hp ⊢
        exact ih hp h0 h1
      · rw [if_neg hc] at h0 h1 hp ⊢
        exact ⟨Or.inl rfl, (h1 rfl)⟩
/-- KeyKeepers$Counting.fits(LKeyKeepers$Prison;I)Z -/
def f_158 (x1 : Int32) (I : Nat → Nat → Int32) (L : Nat → Nat → Int64) : Int32 :=
  let q1 := lp_158_2 am_fu x1 0 I L;
  if q1.1 = 1 then
    q1.2.1
  else
  1
def p_158 (x1 : Int32) (I : Nat → Nat → Int32) (L : Nat → Nat → Int64) : Prop :=
  lq_158_2 am_fu x1 0 I L ∧
  (let q1 := lp_158_2 am_fu x1 0 I L;
    if q1.1 = 1 then
      (q1.2.1 = 0 ∨ q1.2.1 = 1)
    else
    True)
set_option maxRecDepth 100000 in
theorem s_158 {S : am_S} {d N : Nat} {T : Nat → Nat × Nat} {I : Nat → Nat → Int32} {L : Nat → Nat → Int64} {r : Nat → Nat → Option Nat} {Q : am_Q} {x1 : Int32} (hp : p_158 x1 I L) (hq : Q (some (.int (f_158 x1 I L))) (N, am_ts T, I, L, am_rs r)) : am_E S 158 (d + 1) 0 0 0 [.ref 1, .int x1, am_jk] [] (N, am_ts T, I, L, am_rs r) Q := by
  unfold f_158 at hq
  unfold p_158 at hp
  try dsimp only at hq hp
  refine am_E.run [2] 2000 (show (am_E S 158 (d + 1) 0 0 2 [.ref 1, .int x1, .int 0] [] (N, am_ts T, I, L, am_rs r) Q) from ?_)
  refine sl_158_2 am_fu hp.1 (fun hk => ?_) (fun hk => ?_)
  · replace hp := hp.2
    generalize he_q1 : lp_158_2 am_fu x1 0 I L = q1 at hq hp hk ⊢
    rw [if_neg (by rw [hk]; decide)] at hq hp
    refine am_E.run [] 2000 (show (((1 : Int32) = 0 ∨ (1 : Int32) = 1) ∧ Q (some (.int 1)) (N, am_ts T, I, L, am_rs r)) from ?_)
    exact ⟨Or.inr rfl, hq⟩
  · replace hp := hp.2
    generalize he_q1 : lp_158_2 am_fu x1 0 I L = q1 at hq hp hk ⊢
    rw [if_pos hk] at hq hp
    exact hq
def lp_162_3 : Nat → Int32 → Int32 → Int32 → Int32 → (Nat → Nat → Int32) → (Nat → Nat → Int64) → Nat × Int32 × Int32 × (Nat → Nat → Int32) × (Nat → Nat → Int64)
  | 0, v1, v2, v3, v4, I, L => (0, 0, v4, I, L)
  | n + 1, v1, v2, v3, v4, I, L =>
    if v4 < 0 then
      (0, 0, v4, I, L)
    else
      if v4 ≤ 0 then
        lp_162_3 n v1 v2 v3 (v4 + (-1)) (am_u (am_u I 61 (Int32.toNatClampNeg (v1 + v4)) ((I 61 (Int32.toNatClampNeg (v1 + v4))) + (I 61 (Int32.toNatClampNeg (v2 + v4))))) 61 (Int32.toNatClampNeg (v2 + v4)) (I 61 (Int32.toNatClampNeg (v1 + v4)))) L
      else
        lp_162_3 n v1 v2 v3 (v4 + (-1)) (am_u (am_u I 61 (Int32.toNatClampNeg (v1 + v4)) ((I 61 (Int32.toNatClampNeg (v1 + v4))) + (I 61 (Int32.toNatClampNeg (v2 + v4))))) 61 (Int32.toNatClampNeg (v2 + v4)) ((I 61 (Int32.toNatClampNeg (v1 + v4))) + ((am_u I 61 (Int32.toNatClampNeg (v1 + v4)) ((I 61 (Int32.toNatClampNeg (v1 + v4))) + (I 61 (Int32.toNatClampNeg (v2 + v4))))) 61 (Int32.toNatClampNeg ((v2 + v4) - 1))))) L
def lq_162_3 : Nat → Int32 → Int32 → Int32 → Int32 → (Nat → Nat → Int32) → (Nat → Nat → Int64) → Prop
  | 0, v1, v2, v3, v4, I, L => False
  | n + 1, v1, v2, v3, v4, I, L =>
    if v4 < 0 then
      True
    else
      ¬ ((v1 + v4) < 0 ∨ 2304 ≤ Int32.toNatClampNeg (v1 + v4)) ∧
      ¬ ((v2 + v4) < 0 ∨ 2304 ≤ Int32.toNatClampNeg (v2 + v4)) ∧
      ¬ ((v1 + v4) < 0 ∨ 2304 ≤ Int32.toNatClampNeg (v1 + v4)) ∧
      if v4 ≤ 0 then
        ¬ ((v2 + v4) < 0 ∨ 2304 ≤ Int32.toNatClampNeg (v2 + v4)) ∧
        lq_162_3 n v1 v2 v3 (v4 + (-1)) (am_u (am_u I 61 (Int32.toNatClampNeg (v1 + v4)) ((I 61 (Int32.toNatClampNeg (v1 + v4))) + (I 61 (Int32.toNatClampNeg (v2 + v4))))) 61 (Int32.toNatClampNeg (v2 + v4)) (I 61 (Int32.toNatClampNeg (v1 + v4)))) L
      else
        ¬ (((v2 + v4) - 1) < 0 ∨ 2304 ≤ Int32.toNatClampNeg ((v2 + v4) - 1)) ∧
        ¬ ((v2 + v4) < 0 ∨ 2304 ≤ Int32.toNatClampNeg (v2 + v4)) ∧
        lq_162_3 n v1 v2 v3 (v4 + (-1)) (am_u (am_u I 61 (Int32.toNatClampNeg (v1 + v4)) ((I 61 (Int32.toNatClampNeg (v1 + v4))) + (I 61 (Int32.toNatClampNeg (v2 + v4))))) 61 (Int32.toNatClampNeg (v2 + v4)) ((I 61 (Int32.toNatClampNeg (v1 + v4))) + ((am_u I 61 (Int32.toNatClampNeg (v1 + v4)) ((I 61 (Int32.toNatClampNeg (v1 + v4))) + (I 61 (Int32.toNatClampNeg (v2 + v4))))) 61 (Int32.toNatClampNeg ((v2 + v4) - 1))))) L
set_option maxRecDepth 100000 in
theorem sl_162_3 {S : am_S} {d N : Nat} {T : Nat → Nat × Nat} {r : Nat → Nat → Option Nat} {Q : am_Q} : ∀ (n : Nat) {v1 : Int32} {v2 : Int32} {v3 : Int32} {v4 : Int32} {I : Nat → Nat → Int32} {L : Nat → Nat → Int64} (hp : lq_162_3 n v1 v2 v3 v4 I L) (h0 : (lp_162_3 n v1 v2 v3 v4 I L).1 = 0 → am_E S 162 (d + 0) 0 0 79 [.ref 59, .int v1, .int v2, .int v3, .int (lp_162_3 n v1 v2 v3 v4 I L).2.2.1, am_jk] [] (N, am_ts T, (lp_162_3 n v1 v2 v3 v4 I L).2.2.2.1, (lp_162_3 n v1 v2 v3 v4 I L).2.2.2.2, am_rs r) Q), am_E S 162 (d + 0) 0 0 3 [.ref 59, .int v1, .int v2, .int v3, .int v4, am_jk] [] (N, am_ts T, I, L, am_rs r) Q
  | 0, _, _, _, _, _, _, hp, _ => hp.elim
  | n + 1, v1, v2, v3, v4, I, L, hp, h0 => by
    have ih := @sl_162_3 S d N T r Q n
    unfold lp_162_3 at h0
    unfold lq_162_3 at hp
    try dsimp only at h0 hp
    refine am_E.run [3, 79] 2000 (show (if v4 < 0 then (am_E S 162 (d + 0) 0 0 79 [.ref 59, .int v1, .int v2, .int v3, .int v4, am_jk] [] (N, am_ts T, I, L, am_rs r) Q) else (if (v1 + v4) < 0 ∨ 2304 ≤ Int32.toNatClampNeg (v1 + v4) then False else (if (v2 + v4) < 0 ∨ 2304 ≤ Int32.toNatClampNeg (v2 + v4) then False else (if (v1 + v4) < 0 ∨ 2304 ≤ Int32.toNatClampNeg (v1 + v4) then False else (if v4 ≤ 0 then (if (v2 + v4) < 0 ∨ 2304 ≤ Int32.toNatClampNeg (v2 + v4) then False else (am_E S 162 (d + 0) 0 0 3 [.ref 59, .int v1, .int v2, .int v3, .int (v4 + (-1)), .int (I 61 (Int32.toNatClampNeg (v1 + v4)))] [] (N, am_ts T, (am_u (am_u I 61 (Int32.toNatClampNeg (v1 + v4)) ((I 61 (Int32.toNatClampNeg (v1 + v4))) + (I 61 (Int32.toNatClampNeg (v2 + v4))))) 61 (Int32.toNatClampNeg (v2 + v4)) (I 61 (Int32.toNatClampNeg (v1 + v4)))), L, am_rs r) Q)) else (if ((v2 + v4) - 1) < 0 ∨ 2304 ≤ Int32.toNatClampNeg ((v2 + v4) - 1) then False else (if (v2 + v4) < 0 ∨ 2304 ≤ Int32.toNatClampNeg (v2 + v4) then False else (am_E S 162 (d + 0) 0 0 3 [.ref 59, .int v1, .int v2, .int v3, .int (v4 + (-1)), .int (I 61 (Int32.toNatClampNeg (v1 + v4)))] [] (N, am_ts T, (am_u (am_u I 61 (Int32.toNatClampNeg (v1 + v4)) ((I 61 (Int32.toNatClampNeg (v1 + v4))) + (I 61 (Int32.toNatClampNeg (v2 + v4))))) 61 (Int32.toNatClampNeg (v2 + v4)) ((I 61 (Int32.toNatClampNeg (v1 + v4))) + ((am_u I 61 (Int32.toNatClampNeg (v1 + v4)) ((I 61 (Int32.toNatClampNeg (v1 + v4))) + (I 61 (Int32.toNatClampNeg (v2 + v4))))) 61 (Int32.toNatClampNeg ((v2 + v4) - 1))))), L, am_rs r) Q)))))))) from ?_)
    by_cases hc : v4 < 0
    · rw [if_pos hc] at h0 hp ⊢
      exact h0 rfl
    · rw [if_neg hc] at h0 hp ⊢
      rw [if_neg hp.1]
      replace hp := hp.2
      rw [if_neg hp.1]
      replace hp := hp.2
      rw [if_neg hp.1]
      replace hp := hp.2
      by_cases hc : v4 ≤ 0
      · rw [if_pos hc] at h0 hp ⊢
        rw [if_neg hp.1]
        replace hp := hp.2
        exact am_E.junk (ih hp h0) (am_le.cons (am_le.cons (am_le.cons (am_le.cons (am_le.cons (am_le.jk am_le.nil))))))
      · rw [if_neg hc] at h0 hp ⊢
        rw [if_neg hp.1]
        replace hp := hp.2
        rw [if_neg hp.1]
        replace hp := hp.2
        exact am_E.junk (ih hp h0) (am_le.cons (am_le.cons (am_le.cons (am_le.cons (am_le.cons (am_le.jk am_le.nil))))))
/-- KeyKeepers$Counting.spreadOne(III)V -/
def f_162 (x0 : Int32) (x1 : Int32) (x2 : Int32) (I : Nat → Nat → Int32) (L : Nat → Nat → Int64) : Int32 × (Nat → Nat → Int32) × (Nat → Nat → Int64) :=
  let q0 := lp_162_3 am_fu x0 x1 x2 x2 I L;
  (0, q0.2.2.2.1, q0.2.2.2.2)
def p_162 (x0 : Int32) (x1 : Int32) (x2 : Int32) (I : Nat → Nat → Int32) (L : Nat → Nat → Int64) : Prop :=
  lq_162_3 am_fu x0 x1 x2 x2 I L ∧
  (let q0 := lp_162_3 am_fu x0 x1 x2 x2 I L;
    True)
set_option maxRecDepth 100000 in
theorem s_162 {S : am_S} {d N : Nat} {T : Nat → Nat × Nat} {I : Nat → Nat → Int32} {L : Nat → Nat → Int64} {r : Nat → Nat → Option Nat} {Q : am_Q} {x0 : Int32} {x1 : Int32} {x2 : Int32} (hp : p_162 x0 x1 x2 I L) (hq : Q (none) (N, am_ts T, (f_162 x0 x1 x2 I L).2.1, (f_162 x0 x1 x2 I L).2.2, am_rs r)) : am_E S 162 (d + 0) 0 0 0 [.ref 59, .int x0, .int x1, .int x2, am_jk, am_jk] [] (N, am_ts T, I, L, am_rs r) Q := by
  unfold f_162 at hq
  unfold p_162 at hp
  try dsimp only at hq hp
  refine am_E.run [3] 2000 (show (am_E S 162 (d + 0) 0 0 3 [.ref 59, .int x0, .int x1, .int x2, .int x2, am_jk] [] (N, am_ts T, I, L, am_rs r) Q) from ?_)
  refine sl_162_3 am_fu hp.1 (fun hk => ?_)
  · replace hp := hp.2
    generalize he_q0 : lp_162_3 am_fu x0 x1 x2 x2 I L = q0 at hq hp hk ⊢
    refine am_E.run [] 2000 (show (True ∧ Q (none) (N, am_ts T, q0.2.2.2.1, q0.2.2.2.2, am_rs r)) from ?_)
    exact ⟨trivial, hq⟩
/-- KeyKeepers$Nights.drawOf(I)I -/
def f_171 (x0 : Int32) (I : Nat → Nat → Int32) (L : Nat → Nat → Int64) : Int32 × (Nat → Nat → Int32) × (Nat → Nat → Int64) :=
  if x0 ≤ 0 then
    (0, (am_u I 63 3 ((((I 63 3) * 1103) + 12345) - (((I 63 3) * 1103) + 12345) / 1000003 * 1000003)), L)
  else
    ((((((I 63 3) * 1103) + 12345) - (((I 63 3) * 1103) + 12345) / 1000003 * 1000003) - ((((I 63 3) * 1103) + 12345) - (((I 63 3) * 1103) + 12345) / 1000003 * 1000003) / x0 * x0), (am_u I 63 3 ((((I 63 3) * 1103) + 12345) - (((I 63 3) * 1103) + 12345) / 1000003 * 1000003)), L)
def p_171 (x0 : Int32) (I : Nat → Nat → Int32) (L : Nat → Nat → Int64) : Prop :=
  if x0 ≤ 0 then
    True
  else
    ¬ (x0 = 0) ∧
    True
set_option maxRecDepth 100000 in
theorem s_171 {S : am_S} {d N : Nat} {T : Nat → Nat × Nat} {I : Nat → Nat → Int32} {L : Nat → Nat → Int64} {r : Nat → Nat → Option Nat} {Q : am_Q} {x0 : Int32} (hp : p_171 x0 I L) (hq : Q (some (.int (f_171 x0 I L).1)) (N, am_ts T, (f_171 x0 I L).2.1, (f_171 x0 I L).2.2, am_rs r)) : am_E S 171 (d + 0) 0 0 0 [.ref 63, .int x0] [] (N, am_ts T, I, L, am_rs r) Q := by
  unfold f_171 at hq
  unfold p_171 at hp
  try dsimp only at hq hp
  refine am_E.run [] 2000 (show (if x0 ≤ 0 then (True ∧ Q (some (.int 0)) (N, am_ts T, (am_u I 63 3 ((((I 63 3) * 1103) + 12345) - (((I 63 3) * 1103) + 12345) / 1000003 * 1000003)), L, am_rs r)) else (if x0 = 0 then False else (True ∧ Q (some (.int (((((I 63 3) * 1103) + 12345) - (((I 63 3) * 1103) + 12345) / 1000003 * 1000003) - ((((I 63 3) * 1103) + 12345) - (((I 63 3) * 1103) + 12345) / 1000003 * 1000003) / x0 * x0))) (N, am_ts T, (am_u I 63 3 ((((I 63 3) * 1103) + 12345) - (((I 63 3) * 1103) + 12345) / 1000003 * 1000003)), L, am_rs r)))) from ?_)
  by_cases hc : x0 ≤ 0
  · rw [if_pos hc] at hq hp ⊢
    exact ⟨trivial, hq⟩
  · rw [if_neg hc] at hq hp ⊢
    rw [if_neg hp.1]
    replace hp := hp.2
    exact ⟨trivial, hq⟩
/-- KeyKeepers.drawn(II)I -/
def f_172 (x0 : Int32) (x1 : Int32) (I : Nat → Nat → Int32) : Int32 :=
  if x1 = 0 then
    let q0 := f_13 x0 0 ((I 63 0) - 1);
    if q0 = 0 then
      (-1)
    else
      (I 64 (Int32.toNatClampNeg x0))
  else
    if x1 = 1 then
      if (I 63 0) ≤ 0 then
        (-1)
      else
        (I 63 1)
    else
      (-1)
def p_172 (x0 : Int32) (x1 : Int32) (I : Nat → Nat → Int32) : Prop :=
  if x1 = 0 then
    (let q0 := f_13 x0 0 ((I 63 0) - 1);
      if q0 = 0 then
        True
      else
        ¬ (x0 < 0 ∨ 8 ≤ Int32.toNatClampNeg x0) ∧
        True)
  else
    True
set_option maxRecDepth 100000 in
theorem s_172 {S : am_S} {d N : Nat} {T : Nat → Nat × Nat} {I : Nat → Nat → Int32} {L : Nat → Nat → Int64} {r : Nat → Nat → Option Nat} {Q : am_Q} {x0 : Int32} {x1 : Int32} (hp : p_172 x0 x1 I) (hq : Q (some (.int (f_172 x0 x1 I))) (N, am_ts T, I, L, am_rs r)) : am_E S 172 (d + 1) 0 0 0 [.ref 0, .int x0, .int x1] [] (N, am_ts T, I, L, am_rs r) Q := by
  unfold f_172 at hq
  unfold p_172 at hp
  try dsimp only at hq hp
  refine am_E.run [15] 2000 (show (if x1 = 0 then (am_E S 172 (d + 1) 0 0 15 [.ref 0, .int x0, .int x1] [.int ((I 63 0) - 1), .int 0, .int x0] (N, am_ts T, I, L, am_rs r) Q) else (if x1 = 1 then (if (I 63 0) ≤ 0 then (True ∧ Q (some (.int (-1))) (N, am_ts T, I, L, am_rs r)) else (True ∧ Q (some (.int (I 63 1))) (N, am_ts T, I, L, am_rs r))) else (True ∧ Q (some (.int (-1))) (N, am_ts T, I, L, am_rs r)))) from ?_)
  by_cases hc : x1 = 0
  · rw [if_pos hc] at hq hp ⊢
    refine am_E.go ⟨fun v h9 => v = some (.int (f_13 x0 0 ((I 63 0) - 1))) ∧ h9 = (N, am_ts T, I, L, am_rs r), s_13 ⟨rfl, rfl⟩, ?_⟩
    intro v h9 hv
    obtain ⟨rfl, rfl⟩ := hv
    generalize he_q0 : f_13 x0 0 ((I 63 0) - 1) = q0 at hq hp ⊢
    refine am_E.run [] 2000 (show (if q0 = 0 then (True ∧ Q (some (.int (-1))) (N, am_ts T, I, L, am_rs r)) else (if x0 < 0 ∨ 8 ≤ Int32.toNatClampNeg x0 then False else (True ∧ Q (some (.int (I 64 (Int32.toNatClampNeg x0)))) (N, am_ts T, I, L, am_rs r)))) from ?_)
    by_cases hc : q0 = 0
    · rw [if_pos hc] at hq hp ⊢
      exact ⟨trivial, hq⟩
    · rw [if_neg hc] at hq hp ⊢
      rw [if_neg hp.1]
      replace hp := hp.2
      exact ⟨trivial, hq⟩
  · rw [if_neg hc] at hq hp ⊢
    by_cases hc : x1 = 1
    · rw [if_pos hc] at hq ⊢
      by_cases hc : (I 63 0) ≤ 0
      · rw [if_pos hc] at hq ⊢
        exact ⟨trivial, hq⟩
      · rw [if_neg hc] at hq ⊢
        exact ⟨trivial, hq⟩
    · rw [if_neg hc] at hq ⊢
      exact ⟨trivial, hq⟩
