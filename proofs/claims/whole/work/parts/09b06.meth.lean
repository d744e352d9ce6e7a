def lw_131_2 : Nat → Int32 → Int32 → am_I → (Int32 → am_I → Prop) → Prop
  | 0, _, _, _, _ => False
  | n + 1, v2, v3, I, E0 =>
    if (10 : Int32) ≤ v3 then
      E0 v3 I
    else
      ¬ (v3 < 0 ∨ 10 ≤ Int32.toNatClampNeg v3) ∧
      lw_131_2 n v2 (v3 + 1) (am_u I 57 (Int32.toNatClampNeg v3) 0) E0
set_option maxRecDepth 100000 in
theorem sl_131_2 {S : am_S} {d : Nat} {Q : am_Q} {N : Nat} {T : Nat → Nat × Nat} {L : am_J} {r : Nat → Nat → Option Nat} {E0 : Int32 → am_I → Prop} : ∀ (n : Nat) {v2 : Int32} {v3 : Int32} {I : am_I}, lw_131_2 n v2 v3 I E0 → (∀ (o3 : Int32) (I1 : am_I), E0 o3 I1 → am_E S 131 (d + 1) 0 0 21 [.ref 55, .ref 1, .int v2, .int o3] [] (N, am_ts T, I1, L, am_rs r) Q) → am_E S 131 (d + 1) 0 0 2 [.ref 55, .ref 1, .int v2, .int v3] [] (N, am_ts T, I, L, am_rs r) Q
  | 0, _, _, _, hw, _ => hw.elim
  | n + 1, v2, v3, I, hw, hE0 => by
    have ih := @sl_131_2 S d Q N T L r E0 n
    unfold lw_131_2 at hw
    try dsimp only at hw
    refine am_E.run [2, 21] 2000 (show (if (10 : Int32) ≤ v3 then (am_E S 131 (d + 1) 0 0 21 [.ref 55, .ref 1, .int v2, .int v3] [] (N, am_ts T, I, L, am_rs r) Q) else (if v3 < 0 ∨ 10 ≤ Int32.toNatClampNeg v3 then False else (am_E S 131 (d + 1) 0 0 2 [.ref 55, .ref 1, .int v2, .int (v3 + 1)] [] (N, am_ts T, (am_u I 57 (Int32.toNatClampNeg v3) 0), L, am_rs r) Q))) from ?_)
    by_cases hc : (10 : Int32) ≤ v3
    · rw [if_pos hc] at hw ⊢
      exact hE0 _ _ hw
    · rw [if_neg hc] at hw ⊢
      refine am_ifn hw.1 ?_
      replace hw := hw.2
      exact ih hw hE0
def lw_131_23 : Nat → Int32 → Int32 → am_I → (Int32 → am_I → Prop) → Prop
  | 0, _, _, _, _ => False
  | n + 1, v2, v3, I, E0 =>
    if (I 1 2) ≤ v3 then
      E0 v3 I
    else
      if (f_20 v2 v3) = 1 then
        ¬ (v3 < 0 ∨ 12 ≤ Int32.toNatClampNeg v3) ∧
        ¬ ((I 2 (Int32.toNatClampNeg v3)) < 0 ∨ 10 ≤ Int32.toNatClampNeg (I 2 (Int32.toNatClampNeg v3))) ∧
        ¬ ((I 2 (Int32.toNatClampNeg v3)) < 0 ∨ 10 ≤ Int32.toNatClampNeg (I 2 (Int32.toNatClampNeg v3))) ∧
        ¬ (v3 < 0 ∨ 12 ≤ Int32.toNatClampNeg v3) ∧
        ¬ ((I 3 (Int32.toNatClampNeg v3)) < 0 ∨ 10 ≤ Int32.toNatClampNeg (I 3 (Int32.toNatClampNeg v3))) ∧
        ¬ ((I 3 (Int32.toNatClampNeg v3)) < 0 ∨ 10 ≤ Int32.toNatClampNeg (I 3 (Int32.toNatClampNeg v3))) ∧
        lw_131_23 n v2 (v3 + 1) (am_u (am_u I 57 (Int32.toNatClampNeg (I 2 (Int32.toNatClampNeg v3))) ((I 57 (Int32.toNatClampNeg (I 2 (Int32.toNatClampNeg v3)))) ||| (1 <<< (v3 &&& 31)))) 57 (Int32.toNatClampNeg (I 3 (Int32.toNatClampNeg v3))) (((am_u I 57 (Int32.toNatClampNeg (I 2 (Int32.toNatClampNeg v3))) ((I 57 (Int32.toNatClampNeg (I 2 (Int32.toNatClampNeg v3)))) ||| (1 <<< (v3 &&& 31)))) 57 (Int32.toNatClampNeg (I 3 (Int32.toNatClampNeg v3)))) ||| (1 <<< (v3 &&& 31)))) E0
      else
        lw_131_23 n v2 (v3 + 1) I E0
set_option maxRecDepth 100000 in
theorem sl_131_23 {S : am_S} {d : Nat} {Q : am_Q} {N : Nat} {T : Nat → Nat × Nat} {L : am_J} {r : Nat → Nat → Option Nat} {E0 : Int32 → am_I → Prop} : ∀ (n : Nat) {v2 : Int32} {v3 : Int32} {I : am_I}, lw_131_23 n v2 v3 I E0 → (∀ (o3 : Int32) (I1 : am_I), E0 o3 I1 → am_E S 131 (d + 1) 0 0 80 [.ref 55, .ref 1, .int v2, .int o3] [] (N, am_ts T, I1, L, am_rs r) Q) → am_E S 131 (d + 1) 0 0 23 [.ref 55, .ref 1, .int v2, .int v3] [] (N, am_ts T, I, L, am_rs r) Q
  | 0, _, _, _, hw, _ => hw.elim
  | n + 1, v2, v3, I, hw, hE0 => by
    have ih := @sl_131_23 S d Q N T L r E0 n
    unfold lw_131_23 at hw
    try dsimp only at hw
    refine am_E.run [33, 80] 2000 (show (if (I 1 2) ≤ v3 then (am_E S 131 (d + 1) 0 0 80 [.ref 55, .ref 1, .int v2, .int v3] [] (N, am_ts T, I, L, am_rs r) Q) else (am_E S 131 (d + 1) 0 0 33 [.ref 55, .ref 1, .int v2, .int v3] [.int v3, .int v2] (N, am_ts T, I, L, am_rs r) Q)) from ?_)
    by_cases hc : (I 1 2) ≤ v3
    · rw [if_pos hc] at hw ⊢
      exact hE0 _ _ hw
    · rw [if_neg hc] at hw ⊢
      refine am_E.go ⟨fun v h9 => v = some (.int (f_20 v2 v3)) ∧ h9 = (N, am_ts T, I, L, am_rs r), s_20 ⟨rfl, rfl⟩, ?_⟩
      intro v h9 hv
      obtain ⟨rfl, rfl⟩ := hv
      refine am_E.run [23] 2000 (show (if (f_20 v2 v3) = 1 then (if v3 < 0 ∨ 12 ≤ Int32.toNatClampNeg v3 then False else (if (I 2 (Int32.toNatClampNeg v3)) < 0 ∨ 10 ≤ Int32.toNatClampNeg (I 2 (Int32.toNatClampNeg v3)) then False else (if (I 2 (Int32.toNatClampNeg v3)) < 0 ∨ 10 ≤ Int32.toNatClampNeg (I 2 (Int32.toNatClampNeg v3)) then False else (if v3 < 0 ∨ 12 ≤ Int32.toNatClampNeg v3 then False else (if (I 3 (Int32.toNatClampNeg v3)) < 0 ∨ 10 ≤ Int32.toNatClampNeg (I 3 (Int32.toNatClampNeg v3)) then False else (if (I 3 (Int32.toNatClampNeg v3)) < 0 ∨ 10 ≤ Int32.toNatClampNeg (I 3 (Int32.toNatClampNeg v3)) then False else (am_E S 131 (d + 1) 0 0 23 [.ref 55, .ref 1, .int v2, .int (v3 + 1)] [] (N, am_ts T, (am_u (am_u I 57 (Int32.toNatClampNeg (I 2 (Int32.toNatClampNeg v3))) ((I 57 (Int32.toNatClampNeg (I 2 (Int32.toNatClampNeg v3)))) ||| (1 <<< (v3 &&& 31)))) 57 (Int32.toNatClampNeg (I 3 (Int32.toNatClampNeg v3))) (((am_u I 57 (Int32.toNatClampNeg (I 2 (Int32.toNatClampNeg v3))) ((I 57 (Int32.toNatClampNeg (I 2 (Int32.toNatClampNeg v3)))) ||| (1 <<< (v3 &&& 31)))) 57 (Int32.toNatClampNeg (I 3 (Int32.toNatClampNeg v3)))) ||| (1 <<< (v3 &&& 31)))), L, am_rs r) Q))))))) else (am_E S 131 (d + 1) 0 0 23 [.ref 55, .ref 1, .int v2, .int (v3 + 1)] [] (N, am_ts T, I, L, am_rs r) Q)) from ?_)
      by_cases hc : (f_20 v2 v3) = 1
      · rw [if_pos hc] at hw ⊢
        refine am_ifn hw.1 ?_
        replace hw := hw.2
        refine am_ifn hw.1 ?_
        replace hw := hw.2
        refine am_ifn hw.1 ?_
        replace hw := hw.2
        refine am_ifn hw.1 ?_
        replace hw := hw.2
        refine am_ifn hw.1 ?_
        replace hw := hw.2
        refine am_ifn hw.1 ?_
        replace hw := hw.2
        exact ih hw hE0
      · rw [if_neg hc] at hw ⊢
        exact ih hw hE0
/-- KeyKeepers$Doors.findDoorsAt(LKeyKeepers$Prison;I)V -/
def w_131 (x1 : Int32) (I : am_I) (K : am_I → Prop) : Prop :=
  ∃ n2, lw_131_2 n2 x1 0 I (fun o1 I2 =>
    ∃ n23, lw_131_23 n23 x1 0 I2 (fun o3 I4 =>
      K I4))
set_option maxRecDepth 100000 in
theorem s_131 {S : am_S} {d : Nat} {N : Nat} {T : Nat → Nat × Nat} {I : am_I} {L : am_J} {r : Nat → Nat → Option Nat} {Q : am_Q} {x1 : Int32} {K : am_I → Prop} (hw : w_131 x1 I K) (hK : ∀ (I1 : am_I), K I1 → Q (none) (N, am_ts T, I1, L, am_rs r)) : am_E S 131 (d + 1) 0 0 0 [.ref 55, .ref 1, .int x1, am_jk] [] (N, am_ts T, I, L, am_rs r) Q := by
  unfold w_131 at hw
  try dsimp only at hw
  refine am_E.run [2] 2000 (show (am_E S 131 (d + 1) 0 0 2 [.ref 55, .ref 1, .int x1, .int 0] [] (N, am_ts T, I, L, am_rs r) Q) from ?_)
  obtain ⟨n2, hw⟩ := hw
  refine sl_131_2 n2 hw (fun o1 I2 hw => ?_)
  · try dsimp only at hw
    refine am_E.run [23] 2000 (show (am_E S 131 (d + 1) 0 0 23 [.ref 55, .ref 1, .int x1, .int 0] [] (N, am_ts T, I2, L, am_rs r) Q) from ?_)
    obtain ⟨n23, hw⟩ := hw
    refine sl_131_23 n23 hw (fun o3 I4 hw => ?_)
    · try dsimp only at hw
      refine am_E.run [] 2000 (show (True ∧ Q (none) (N, am_ts T, I4, L, am_rs r)) from ?_)
      exact ⟨trivial, hK _ hw⟩
def lw_132_4 : Nat → Int32 → Int32 → Int32 → am_I → (Int32 → Int32 → am_I → Prop) → Prop
  | 0, _, _, _, _, _ => False
  | n + 1, v1, v2, v3, I, E0 =>
    if (10 : Int32) ≤ v3 then
      E0 v2 v3 I
    else
      if v3 = v1 then
        lw_132_4 n v1 v2 (v3 + 1) I E0
      else
        ¬ (v3 < 0 ∨ 10 ≤ Int32.toNatClampNeg v3) ∧
        if (I 57 (Int32.toNatClampNeg v3)) = 0 then
          lw_132_4 n v1 v2 (v3 + 1) I E0
        else
          ¬ (v2 < 0 ∨ 10 ≤ Int32.toNatClampNeg v2) ∧
          lw_132_4 n v1 (v2 + 1) (v3 + 1) (am_u I 58 (Int32.toNatClampNeg v2) v3) E0
set_option maxRecDepth 100000 in
theorem sl_132_4 {S : am_S} {d : Nat} {Q : am_Q} {N : Nat} {T : Nat → Nat × Nat} {L : am_J} {r : Nat → Nat → Option Nat} {E0 : Int32 → Int32 → am_I → Prop} : ∀ (n : Nat) {v1 : Int32} {v2 : Int32} {v3 : Int32} {I : am_I}, lw_132_4 n v1 v2 v3 I E0 → (∀ (o2 : Int32) (o3 : Int32) (I1 : am_I), E0 o2 o3 I1 → am_E S 132 (d + 0) 0 0 40 [.ref 55, .int v1, .int o2, .int o3] [] (N, am_ts T, I1, L, am_rs r) Q) → am_E S 132 (d + 0) 0 0 4 [.ref 55, .int v1, .int v2, .int v3] [] (N, am_ts T, I, L, am_rs r) Q
  | 0, _, _, _, _, hw, _ => hw.elim
  | n + 1, v1, v2, v3, I, hw, hE0 => by
    have ih := @sl_132_4 S d Q N T L r E0 n
    unfold lw_132_4 at hw
    try dsimp only at hw
    refine am_E.run [4, 40] 2000 (show (if (10 : Int32) ≤ v3 then (am_E S 132 (d + 0) 0 0 40 [.ref 55, .int v1, .int v2, .int v3] [] (N, am_ts T, I, L, am_rs r) Q) else (if v3 = v1 then (am_E S 132 (d + 0) 0 0 4 [.ref 55, .int v1, .int v2, .int (v3 + 1)] [] (N, am_ts T, I, L, am_rs r) Q) else (if v3 < 0 ∨ 10 ≤ Int32.toNatClampNeg v3 then False else (if (I 57 (Int32.toNatClampNeg v3)) = 0 then (am_E S 132 (d + 0) 0 0 4 [.ref 55, .int v1, .int v2, .int (v3 + 1)] [] (N, am_ts T, I, L, am_rs r) Q) else (if v2 < 0 ∨ 10 ≤ Int32.toNatClampNeg v2 then False else (am_E S 132 (d + 0) 0 0 4 [.ref 55, .int v1, .int (v2 + 1), .int (v3 + 1)] [] (N, am_ts T, (am_u I 58 (Int32.toNatClampNeg v2) v3), L, am_rs r) Q)))))) from ?_)
    by_cases hc : (10 : Int32) ≤ v3
    · rw [if_pos hc] at hw ⊢
      exact hE0 _ _ _ hw
    · rw [if_neg hc] at hw ⊢
      by_cases hc : v3 = v1
      · rw [if_pos hc] at hw ⊢
        exact ih hw hE0
      · rw [if_neg hc] at hw ⊢
        refine am_ifn hw.1 ?_
        replace hw := hw.2
        by_cases hc : (I 57 (Int32.toNatClampNeg v3)) = 0
        · rw [if_pos hc] at hw ⊢
          exact ih hw hE0
        · rw [if_neg hc] at hw ⊢
          refine am_ifn hw.1 ?_
          replace hw := hw.2
          exact ih hw hE0
/-- KeyKeepers$Doors.findBetween(I)I -/
def w_132 (x0 : Int32) (I : am_I) (K : Int32 → am_I → Prop) : Prop :=
  ∃ n4, lw_132_4 n4 x0 0 1 I (fun o1 o2 I3 =>
    K o1 I3)
set_option maxRecDepth 100000 in
theorem s_132 {S : am_S} {d : Nat} {N : Nat} {T : Nat → Nat × Nat} {I : am_I} {L : am_J} {r : Nat → Nat → Option Nat} {Q : am_Q} {x0 : Int32} {K : Int32 → am_I → Prop} (hw : w_132 x0 I K) (hK : ∀ (q : Int32) (I1 : am_I), K q I1 → Q (some (.int q)) (N, am_ts T, I1, L, am_rs r)) : am_E S 132 (d + 0) 0 0 0 [.ref 55, .int x0, am_jk, am_jk] [] (N, am_ts T, I, L, am_rs r) Q := by
  unfold w_132 at hw
  try dsimp only at hw
  refine am_E.run [4] 2000 (show (am_E S 132 (d + 0) 0 0 4 [.ref 55, .int x0, .int 0, .int 1] [] (N, am_ts T, I, L, am_rs r) Q) from ?_)
  obtain ⟨n4, hw⟩ := hw
  refine sl_132_4 n4 hw (fun o1 o2 I3 hw => ?_)
  · try dsimp only at hw
    refine am_E.run [] 2000 (show (True ∧ Q (some (.int o1)) (N, am_ts T, I3, L, am_rs r)) from ?_)
    exact ⟨trivial, hK _ _ hw⟩
/-- java/lang/Integer.numberOfTrailingZeros(I)I -/
def f_133 (x0 : Int32) : Int32 :=
  if (0 : Int32) < ((x0 ^^^ (-1)) &&& (x0 - 1)) then
    if ((x0 ^^^ (-1)) &&& (x0 - 1)) ≤ 65536 then
      if ((x0 ^^^ (-1)) &&& (x0 - 1)) ≤ 256 then
        if ((x0 ^^^ (-1)) &&& (x0 - 1)) ≤ 16 then
          if ((x0 ^^^ (-1)) &&& (x0 - 1)) ≤ 4 then
            (1 + (UInt32.toInt32 (Int32.toUInt32 ((x0 ^^^ (-1)) &&& (x0 - 1)) >>> (Int32.toUInt32 1 &&& Int32.toUInt32 31))))
          else
            ((1 + 2) + (UInt32.toInt32 (Int32.toUInt32 (UInt32.toInt32 (Int32.toUInt32 ((x0 ^^^ (-1)) &&& (x0 - 1)) >>> (Int32.toUInt32 2 &&& Int32.toUInt32 31))) >>> (Int32.toUInt32 1 &&& Int32.toUInt32 31))))
        else
          if (UInt32.toInt32 (Int32.toUInt32 ((x0 ^^^ (-1)) &&& (x0 - 1)) >>> (Int32.toUInt32 4 &&& Int32.toUInt32 31))) ≤ 4 then
            ((1 + 4) + (UInt32.toInt32 (Int32.toUInt32 (UInt32.toInt32 (Int32.toUInt32 ((x0 ^^^ (-1)) &&& (x0 - 1)) >>> (Int32.toUInt32 4 &&& Int32.toUInt32 31))) >>> (Int32.toUInt32 1 &&& Int32.toUInt32 31))))
          else
            (((1 + 4) + 2) + (UInt32.toInt32 (Int32.toUInt32 (UInt32.toInt32 (Int32.toUInt32 (UInt32.toInt32 (Int32.toUInt32 ((x0 ^^^ (-1)) &&& (x0 - 1)) >>> (Int32.toUInt32 4 &&& Int32.toUInt32 31))) >>> (Int32.toUInt32 2 &&& Int32.toUInt32 31))) >>> (Int32.toUInt32 1 &&& Int32.toUInt32 31))))
      else
        if (UInt32.toInt32 (Int32.toUInt32 ((x0 ^^^ (-1)) &&& (x0 - 1)) >>> (Int32.toUInt32 8 &&& Int32.toUInt32 31))) ≤ 16 then
          if (UInt32.toInt32 (Int32.toUInt32 ((x0 ^^^ (-1)) &&& (x0 - 1)) >>> (Int32.toUInt32 8 &&& Int32.toUInt32 31))) ≤ 4 then
            ((1 + 8) + (UInt32.toInt32 (Int32.toUInt32 (UInt32.toInt32 (Int32.toUInt32 ((x0 ^^^ (-1)) &&& (x0 - 1)) >>> (Int32.toUInt32 8 &&& Int32.toUInt32 31))) >>> (Int32.toUInt32 1 &&& Int32.toUInt32 31))))
          else
            (((1 + 8) + 2) + (UInt32.toInt32 (Int32.toUInt32 (UInt32.toInt32 (Int32.toUInt32 (UInt32.toInt32 (Int32.toUInt32 ((x0 ^^^ (-1)) &&& (x0 - 1)) >>> (Int32.toUInt32 8 &&& Int32.toUInt32 31))) >>> (Int32.toUInt32 2 &&& Int32.toUInt32 31))) >>> (Int32.toUInt32 1 &&& Int32.toUInt32 31))))
        else
          if (UInt32.toInt32 (Int32.toUInt32 (UInt32.toInt32 (Int32.toUInt32 ((x0 ^^^ (-1)) &&& (x0 - 1)) >>> (Int32.toUInt32 8 &&& Int32.toUInt32 31))) >>> (Int32.toUInt32 4 &&& Int32.toUInt32 31))) ≤ 4 then
            (((1 + 8) + 4) + (UInt32.toInt32 (Int32.toUInt32 (UInt32.toInt32 (Int32.toUInt32 (UInt32.toInt32 (Int32.toUInt32 ((x0 ^^^ (-1)) &&& (x0 - 1)) >>> (Int32.toUInt32 8 &&& Int32.toUInt32 31))) >>> (Int32.toUInt32 4 &&& Int32.toUInt32 31))) >>> (Int32.toUInt32 1 &&& Int32.toUInt32 31))))
          else
            ((((1 + 8) + 4) + 2) + (UInt32.toInt32 (Int32.toUInt32 (UInt32.toInt32 (Int32.toUInt32 (UInt32.toInt32 (Int32.toUInt32 (UInt32.toInt32 (Int32.toUInt32 ((x0 ^^^ (-1)) &&& (x0 - 1)) >>> (Int32.toUInt32 8 &&& Int32.toUInt32 31))) >>> (Int32.toUInt32 4 &&& Int32.toUInt32 31))) >>> (Int32.toUInt32 2 &&& Int32.toUInt32 31))) >>> (Int32.toUInt32 1 &&& Int32.toUInt32 31))))
    else
      if (UInt32.toInt32 (Int32.toUInt32 ((x0 ^^^ (-1)) &&& (x0 - 1)) >>> (Int32.toUInt32 16 &&& Int32.toUInt32 31))) ≤ 256 then
        if (UInt32.toInt32 (Int32.toUInt32 ((x0 ^^^ (-1)) &&& (x0 - 1)) >>> (Int32.toUInt32 16 &&& Int32.toUInt32 31))) ≤ 16 then
          if (UInt32.toInt32 (Int32.toUInt32 ((x0 ^^^ (-1)) &&& (x0 - 1)) >>> (Int32.toUInt32 16 &&& Int32.toUInt32 31))) ≤ 4 then
            ((1 + 16) + (UInt32.toInt32 (Int32.toUInt32 (UInt32.toInt32 (Int32.toUInt32 ((x0 ^^^ (-1)) &&& (x0 - 1)) >>> (Int32.toUInt32 16 &&& Int32.toUInt32 31))) >>> (Int32.toUInt32 1 &&& Int32.toUInt32 31))))
          else
            (((1 + 16) + 2) + (UInt32.toInt32 (Int32.toUInt32 (UInt32.toInt32 (Int32.toUInt32 (UInt32.toInt32 (Int32.toUInt32 ((x0 ^^^ (-1)) &&& (x0 - 1)) >>> (Int32.toUInt32 16 &&& Int32.toUInt32 31))) >>> (Int32.toUInt32 2 &&& Int32.toUInt32 31))) >>> (Int32.toUInt32 1 &&& Int32.toUInt32 31))))
        else
          if (UInt32.toInt32 (Int32.toUInt32 (UInt32.toInt32 (Int32.toUInt32 ((x0 ^^^ (-1)) &&& (x0 - 1)) >>> (Int32.toUInt32 16 &&& Int32.toUInt32 31))) >>> (Int32.toUInt32 4 &&& Int32.toUInt32 31))) ≤ 4 then
            (((1 + 16) + 4) + (UInt32.toInt32 (Int32.toUInt32 (UInt32.toInt32 (Int32.toUInt32 (UInt32.toInt32 (Int32.toUInt32 ((x0 ^^^ (-1)) &&& (x0 - 1)) >>> (Int32.toUInt32 16 &&& Int32.toUInt32 31))) >>> (Int32.toUInt32 4 &&& Int32.toUInt32 31))) >>> (Int32.toUInt32 1 &&& Int32.toUInt32 31))))
          else
            ((((1 + 16) + 4) + 2) + (UInt32.toInt32 (Int32.toUInt32 (UInt32.toInt32 (Int32.toUInt32 (UInt32.toInt32 (Int32.toUInt32 (UInt32.toInt32 (Int32.toUInt32 ((x0 ^^^ (-1)) &&& (x0 - 1)) >>> (Int32.toUInt32 16 &&& Int32.toUInt32 31))) >>> (Int32.toUInt32 4 &&& Int32.toUInt32 31))) >>> (Int32.toUInt32 2 &&& Int32.toUInt32 31))) >>> (Int32.toUInt32 1 &&& Int32.toUInt32 31))))
      else
        if (UInt32.toInt32 (Int32.toUInt32 (UInt32.toInt32 (Int32.toUInt32 ((x0 ^^^ (-1)) &&& (x0 - 1)) >>> (Int32.toUInt32 16 &&& Int32.toUInt32 31))) >>> (Int32.toUInt32 8 &&& Int32.toUInt32 31))) ≤ 16 then
          if (UInt32.toInt32 (Int32.toUInt32 (UInt32.toInt32 (Int32.toUInt32 ((x0 ^^^ (-1)) &&& (x0 - 1)) >>> (Int32.toUInt32 16 &&& Int32.toUInt32 31))) >>> (Int32.toUInt32 8 &&& Int32.toUInt32 31))) ≤ 4 then
            (((1 + 16) + 8) + (UInt32.toInt32 (Int32.toUInt32 (UInt32.toInt32 (Int32.toUInt32 (UInt32.toInt32 (Int32.toUInt32 ((x0 ^^^ (-1)) &&& (x0 - 1)) >>> (Int32.toUInt32 16 &&& Int32.toUInt32 31))) >>> (Int32.toUInt32 8 &&& Int32.toUInt32 31))) >>> (Int32.toUInt32 1 &&& Int32.toUInt32 31))))
          else
            ((((1 + 16) + 8) + 2) + (UInt32.toInt32 (Int32.toUInt32 (UInt32.toInt32 (Int32.toUInt32 (UInt32.toInt32 (Int32.toUInt32 (UInt32.toInt32 (Int32.toUInt32 ((x0 ^^^ (-1)) &&& (x0 - 1)) >>> (Int32.toUInt32 16 &&& Int32.toUInt32 31))) >>> (Int32.toUInt32 8 &&& Int32.toUInt32 31))) >>> (Int32.toUInt32 2 &&& Int32.toUInt32 31))) >>> (Int32.toUInt32 1 &&& Int32.toUInt32 31))))
        else
          if (UInt32.toInt32 (Int32.toUInt32 (UInt32.toInt32 (Int32.toUInt32 (UInt32.toInt32 (Int32.toUInt32 ((x0 ^^^ (-1)) &&& (x0 - 1)) >>> (Int32.toUInt32 16 &&& Int32.toUInt32 31))) >>> (Int32.toUInt32 8 &&& Int32.toUInt32 31))) >>> (Int32.toUInt32 4 &&& Int32.toUInt32 31))) ≤ 4 then
            ((((1 + 16) + 8) + 4) + (UInt32.toInt32 (Int32.toUInt32 (UInt32.toInt32 (Int32.toUInt32 (UInt32.toInt32 (Int32.toUInt32 (UInt32.toInt32 (Int32.toUInt32 ((x0 ^^^ (-1)) &&& (x0 - 1)) >>> (Int32.toUInt32 16 &&& Int32.toUInt32 31))) >>> (Int32.toUInt32 8 &&& Int32.toUInt32 31))) >>> (Int32.toUInt32 4 &&& Int32.toUInt32 31))) >>> (Int32.toUInt32 1 &&& Int32.toUInt32 31))))
          else
            (((((1 + 16) + 8) + 4) + 2) + (UInt32.toInt32 (Int32.toUInt32 (UInt32.toInt32 (Int32.toUInt32 (UInt32.toInt32 (Int32.toUInt32 (UInt32.toInt32 (Int32.toUInt32 (UInt32.toInt32 (Int32.toUInt32 ((x0 ^^^ (-1)) &&& (x0 - 1)) >>> (Int32.toUInt32 16 &&& Int32.toUInt32 31))) >>> (Int32.toUInt32 8 &&& Int32.toUInt32 31))) >>> (Int32.toUInt32 4 &&& Int32.toUInt32 31))) >>> (Int32.toUInt32 2 &&& Int32.toUInt32 31))) >>> (Int32.toUInt32 1 &&& Int32.toUInt32 31))))
  else
    (((x0 ^^^ (-1)) &&& (x0 - 1)) &&& 32)
set_option maxRecDepth 100000 in
theorem s_133 {S : am_S} {d : Nat} {N : Nat} {T : Nat → Nat × Nat} {I : am_I} {L : am_J} {r : Nat → Nat → Option Nat} {Q : am_Q} {x0 : Int32} (hq : Q (some (.int (f_133 x0))) (N, am_ts T, I, L, am_rs r)) : am_E S 133 (d + 0) 0 0 0 [.int x0, am_jk] [] (N, am_ts T, I, L, am_rs r) Q := by
  unfold f_133 at hq
  try dsimp only at hq
  refine am_E.run [12, 17] 2000 (show (if (0 : Int32) < ((x0 ^^^ (-1)) &&& (x0 - 1)) then (am_E S 133 (d + 0) 0 0 17 [.int ((x0 ^^^ (-1)) &&& (x0 - 1)), am_jk] [] (N, am_ts T, I, L, am_rs r) Q) else (am_E S 133 (d + 0) 0 0 12 [.int ((x0 ^^^ (-1)) &&& (x0 - 1)), am_jk] [] (N, am_ts T, I, L, am_rs r) Q)) from ?_)
  by_cases hc : (0 : Int32) < ((x0 ^^^ (-1)) &&& (x0 - 1))
  · rw [if_pos hc] at hq ⊢
    refine am_E.run [26, 34] 2000 (show (if ((x0 ^^^ (-1)) &&& (x0 - 1)) ≤ 65536 then (am_E S 133 (d + 0) 0 0 34 [.int ((x0 ^^^ (-1)) &&& (x0 - 1)), .int 1] [] (N, am_ts T, I, L, am_rs r) Q) else (am_E S 133 (d + 0) 0 0 26 [.int ((x0 ^^^ (-1)) &&& (x0 - 1)), .int 1] [] (N, am_ts T, I, L, am_rs r) Q)) from ?_)
    by_cases hc : ((x0 ^^^ (-1)) &&& (x0 - 1)) ≤ 65536
    · rw [if_pos hc] at hq ⊢
      refine am_E.run [41, 49] 2000 (show (if ((x0 ^^^ (-1)) &&& (x0 - 1)) ≤ 256 then (am_E S 133 (d + 0) 0 0 49 [.int ((x0 ^^^ (-1)) &&& (x0 - 1)), .int 1] [] (N, am_ts T, I, L, am_rs r) Q) else (am_E S 133 (d + 0) 0 0 41 [.int ((x0 ^^^ (-1)) &&& (x0 - 1)), .int 1] [] (N, am_ts T, I, L, am_rs r) Q)) from ?_)
      by_cases hc : ((x0 ^^^ (-1)) &&& (x0 - 1)) ≤ 256
      · rw [if_pos hc] at hq ⊢
        refine am_E.run [55, 62] 2000 (show (if ((x0 ^^^ (-1)) &&& (x0 - 1)) ≤ 16 then (am_E S 133 (d + 0) 0 0 62 [.int ((x0 ^^^ (-1)) &&& (x0 - 1)), .int 1] [] (N, am_ts T, I, L, am_rs r) Q) else (am_E S 133 (d + 0) 0 0 55 [.int ((x0 ^^^ (-1)) &&& (x0 - 1)), .int 1] [] (N, am_ts T, I, L, am_rs r) Q)) from ?_)
        by_cases hc : ((x0 ^^^ (-1)) &&& (x0 - 1)) ≤ 16
        · rw [if_pos hc] at hq ⊢
          refine am_E.run [67, 74] 2000 (show (if ((x0 ^^^ (-1)) &&& (x0 - 1)) ≤ 4 then (am_E S 133 (d + 0) 0 0 74 [.int ((x0 ^^^ (-1)) &&& (x0 - 1)), .int 1] [] (N, am_ts T, I, L, am_rs r) Q) else (am_E S 133 (d + 0) 0 0 67 [.int ((x0 ^^^ (-1)) &&& (x0 - 1)), .int 1] [] (N, am_ts T, I, L, am_rs r) Q)) from ?_)
          by_cases hc : ((x0 ^^^ (-1)) &&& (x0 - 1)) ≤ 4
          · rw [if_pos hc] at hq ⊢
            refine am_E.run [] 2000 (show (True ∧ Q (some (.int (1 + (UInt32.toInt32 (Int32.toUInt32 ((x0 ^^^ (-1)) &&& (x0 - 1)) >>> (Int32.toUInt32 1 &&& Int32.toUInt32 31)))))) (N, am_ts T, I, L, am_rs r)) from ?_)
            exact ⟨trivial, hq⟩
          · rw [if_neg hc] at hq ⊢
            refine am_E.run [] 2000 (show (True ∧ Q (some (.int ((1 + 2) + (UInt32.toInt32 (Int32.toUInt32 (UInt32.toInt32 (Int32.toUInt32 ((x0 ^^^ (-1)) &&& (x0 - 1)) >>> (Int32.toUInt32 2 &&& Int32.toUInt32 31))) >>> (Int32.toUInt32 1 &&& Int32.toUInt32 31)))))) (N, am_ts T, I, L, am_rs r)) from ?_)
            exact ⟨trivial, hq⟩
        · rw [if_neg hc] at hq ⊢
          refine am_E.run [67, 74] 2000 (show (if (UInt32.toInt32 (Int32.toUInt32 ((x0 ^^^ (-1)) &&& (x0 - 1)) >>> (Int32.toUInt32 4 &&& Int32.toUInt32 31))) ≤ 4 then (am_E S 133 (d + 0) 0 0 74 [.int (UInt32.toInt32 (Int32.toUInt32 ((x0 ^^^ (-1)) &&& (x0 - 1)) >>> (Int32.toUInt32 4 &&& Int32.toUInt32 31))), .int (1 + 4)] [] (N, am_ts T, I, L, am_rs r) Q) else (am_E S 133 (d + 0) 0 0 67 [.int (UInt32.toInt32 (Int32.toUInt32 ((x0 ^^^ (-1)) &&& (x0 - 1)) >>> (Int32.toUInt32 4 &&& Int32.toUInt32 31))), .int (1 + 4)] [] (N, am_ts T, I, L, am_rs r) Q)) from ?_)
          by_cases hc : (UInt32.toInt32 (Int32.toUInt32 ((x0 ^^^ (-1)) &&& (x0 - 1)) >>> (Int32.toUInt32 4 &&& Int32.toUInt32 31))) ≤ 4
          · rw [if_pos hc] at hq ⊢
            refine am_E.run [] 2000 (show (True ∧ Q (some (.int ((1 + 4) + (UInt32.toInt32 (Int32.toUInt32 (UInt32.toInt32 (Int32.toUInt32 ((x0 ^^^ (-1)) &&& (x0 - 1)) >>> (Int32.toUInt32 4 &&& Int32.toUInt32 31))) >>> (Int32.toUInt32 1 &&& Int32.toUInt32 31)))))) (N, am_ts T, I, L, am_rs r)) from ?_)
            exact ⟨trivial, hq⟩
          · rw [if_neg hc] at hq ⊢
            refine am_E.run [] 2000 (show (True ∧ Q (some (.int (((1 + 4) + 2) + (UInt32.toInt32 (Int32.toUInt32 (UInt32.toInt32 (Int32.toUInt32 (UInt32.toInt32 (Int32.toUInt32 ((x0 ^^^ (-1)) &&& (x0 - 1)) >>> (Int32.toUInt32 4 &&& Int32.toUInt32 31))) >>> (Int32.toUInt32 2 &&& Int32.toUInt32 31))) >>> (Int32.toUInt32 1 &&& Int32.toUInt32 31)))))) (N, am_ts T, I, L, am_rs r)) from ?_)
            exact ⟨trivial, hq⟩
      · rw [if_neg hc] at hq ⊢
        refine am_E.run [55, 62] 2000 (show (if (UInt32.toInt32 (Int32.toUInt32 ((x0 ^^^ (-1)) &&& (x0 - 1)) >>> (Int32.toUInt32 8 &&& Int32.toUInt32 31))) ≤ 16 then (am_E S 133 (d + 0) 0 0 62 [.int (UInt32.toInt32 (Int32.toUInt32 ((x0 ^^^ (-1)) &&& (x0 - 1)) >>> (Int32.toUInt32 8 &&& Int32.toUInt32 31))), .int (1 + 8)] [] (N, am_ts T, I, L, am_rs r) Q) else (am_E S 133 (d + 0) 0 0 55 [.int (UInt32.toInt32 (Int32.toUInt32 ((x0 ^^^ (-1)) &&& (x0 - 1)) >>> (Int32.toUInt32 8 &&& Int32.toUInt32 31))), .int (1 + 8)] [] (N, am_ts T, I, L, am_rs r) Q)) from ?_)
        by_cases hc : (UInt32.toInt32 (Int32.toUInt32 ((x0 ^^^ (-1)) &&& (x0 - 1)) >>> (Int32.toUInt32 8 &&& Int32.toUInt32 31))) ≤ 16
        · rw [if_pos hc] at hq ⊢
          refine am_E.run [67, 74] 2000 (show (if (UInt32.toInt32 (Int32.toUInt32 ((x0 ^^^ (-1)) &&& (x0 - 1)) >>> (Int32.toUInt32 8 &&& Int32.toUInt32 31))) ≤ 4 then (am_E S 133 (d + 0) 0 0 74 [.int (UInt32.toInt32 (Int32.toUInt32 ((x0 ^^^ (-1)) &&& (x0 - 1)) >>> (Int32.toUInt32 8 &&& Int32.toUInt32 31))), .int (1 + 8)] [] (N, am_ts T, I, L, am_rs r) Q) else (am_E S 133 (d + 0) 0 0 67 [.int (UInt32.toInt32 (Int32.toUInt32 ((x0 ^^^ (-1)) &&& (x0 - 1)) >>> (Int32.toUInt32 8 &&& Int32.toUInt32 31))), .int (1 + 8)] [] (N, am_ts T, I, L, am_rs r) Q)) from ?_)
          by_cases hc : (UInt32.toInt32 (Int32.toUInt32 ((x0 ^^^ (-1)) &&& (x0 - 1)) >>> (Int32.toUInt32 8 &&& Int32.toUInt32 31))) ≤ 4
          · rw [if_pos hc] at hq ⊢
            refine am_E.run [] 2000 (show (True ∧ Q (some (.int ((1 + 8) + (UInt32.toInt32 (Int32.toUInt32 (UInt32.toInt32 (Int32.toUInt32 ((x0 ^^^ (-1)) &&& (x0 - 1)) >>> (Int32.toUInt32 8 &&& Int32.toUInt32 31))) >>> (Int32.toUInt32 1 &&& Int32.toUInt32 31)))))) (N, am_ts T, I, L, am_rs r)) from ?_)
            exact ⟨trivial, hq⟩
          · rw [if_neg hc] at hq ⊢
            refine am_E.run [] 2000 (show (True ∧ Q (some (.int (((1 + 8) + 2) + (UInt32.toInt32 (Int32.toUInt32 (UInt32.toInt32 (Int32.toUInt32 (UInt32.toInt32 (Int32.toUInt32 ((x0 ^^^ (-1)) &&& (x0 - 1)) >>> (Int32.toUInt32 8 &&& Int32.toUInt32 31))) >>> (Int32.toUInt32 2 &&& Int32.toUInt32 31))) >>> (Int32.toUInt32 1 &&& Int32.toUInt32 31)))))) (N, am_ts T, I, L, am_rs r)) from ?_)
            exact ⟨trivial, hq⟩
        · rw [if_neg hc] at hq ⊢
          refine am_E.run [67, 74] 2000 (show (if (UInt32.toInt32 (Int32.toUInt32 (UInt32.toInt32 (Int32.toUInt32 ((x0 ^^^ (-1)) &&& (x0 - 1)) >>> (Int32.toUInt32 8 &&& Int32.toUInt32 31))) >>> (Int32.toUInt32 4 &&& Int32.toUInt32 31))) ≤ 4 then (am_E S 133 (d + 0) 0 0 74 [.int (UInt32.toInt32 (Int32.toUInt32 (UInt32.toInt32 (Int32.toUInt32 ((x0 ^^^ (-1)) &&& (x0 - 1)) >>> (Int32.toUInt32 8 &&& Int32.toUInt32 31))) >>> (Int32.toUInt32 4 &&& Int32.toUInt32 31))), .int ((1 + 8) + 4)] [] (N, am_ts T, I, L, am_rs r) Q) else (am_E S 133 (d + 0) 0 0 67 [.int (UInt32.toInt32 (Int32.toUInt32 (UInt32.toInt32 (Int32.toUInt32 ((x0 ^^^ (-1)) &&& (x0 - 1)) >>> (Int32.toUInt32 8 &&& Int32.toUInt32 31))) >>> (Int32.toUInt32 4 &&& Int32.toUInt32 31))), .int ((1 + 8) + 4)] [] (N, am_ts T, I, L, am_rs r) Q)) from ?_)
          by_cases hc : (UInt32.toInt32 (Int32.toUInt32 (UInt32.toInt32 (Int32.toUInt32 ((x0 ^^^ (-1)) &&& (x0 - 1)) >>> (Int32.toUInt32 8 &&& Int32.toUInt32 31))) >>> (Int32.toUInt32 4 &&& Int32.toUInt32 31))) ≤ 4
          · rw [if_pos hc] at hq ⊢
            refine am_E.run [] 2000 (show (True ∧ Q (some (.int (((1 + 8) + 4) + (UInt32.toInt32 (Int32.toUInt32 (UInt32.toInt32 (Int32.toUInt32 (UInt32.toInt32 (Int32.toUInt32 ((x0 ^^^ (-1)) &&& (x0 - 1)) >>> (Int32.toUInt32 8 &&& Int32.toUInt32 31))) >>> (Int32.toUInt32 4 &&& Int32.toUInt32 31))) >>> (Int32.toUInt32 1 &&& Int32.toUInt32 31)))))) (N, am_ts T, I, L, am_rs r)) from ?_)
            exact ⟨trivial, hq⟩
          · rw [if_neg hc] at hq ⊢
            refine am_E.run [] 2000 (show (True ∧ Q (some (.int ((((1 + 8) + 4) + 2) + (UInt32.toInt32 (Int32.toUInt32 (UInt32.toInt32 (Int32.toUInt32 (UInt32.toInt32 (Int32.toUInt32 (UInt32.toInt32 (Int32.toUInt32 ((x0 ^^^ (-1)) &&& (x0 - 1)) >>> (Int32.toUInt32 8 &&& Int32.toUInt32 31))) >>> (Int32.toUInt32 4 &&& Int32.toUInt32 31))) >>> (Int32.toUInt32 2 &&& Int32.toUInt32 31))) >>> (Int32.toUInt32 1 &&& Int32.toUInt32 31)))))) (N, am_ts T, I, L, am_rs r)) from ?_)
            exact ⟨trivial, hq⟩
    · rw [if_neg hc] at hq ⊢
      refine am_E.run [41, 49] 2000 (show (if (UInt32.toInt32 (Int32.toUInt32 ((x0 ^^^ (-1)) &&& (x0 - 1)) >>> (Int32.toUInt32 16 &&& Int32.toUInt32 31))) ≤ 256 then (am_E S 133 (d + 0) 0 0 49 [.int (UInt32.toInt32 (Int32.toUInt32 ((x0 ^^^ (-1)) &&& (x0 - 1)) >>> (Int32.toUInt32 16 &&& Int32.toUInt32 31))), .int (1 + 16)] [] (N, am_ts T, I, L, am_rs r) Q) else (am_E S 133 (d + 0) 0 0 41 [.int (UInt32.toInt32 (Int32.toUInt32 ((x0 ^^^ (-1)) &&& (x0 - 1)) >>> (Int32.toUInt32 16 &&& Int32.toUInt32 31))), .int (1 + 16)] [] (N, am_ts T, I, L, am_rs r) Q)) from ?_)
      by_cases hc : (UInt32.toInt32 (Int32.toUInt32 ((x0 ^^^ (-1)) &&& (x0 - 1)) >>> (Int32.toUInt32 16 &&& Int32.toUInt32 31))) ≤ 256
      · rw [if_pos hc] at hq ⊢
        refine am_E.run [55, 62] 2000 (show (if (UInt32.toInt32 (Int32.toUInt32 ((x0 ^^^ (-1)) &&& (x0 - 1)) >>> (Int32.toUInt32 16 &&& Int32.toUInt32 31))) ≤ 16 then (am_E S 133 (d + 0) 0 0 62 [.int (UInt32.toInt32 (Int32.toUInt32 ((x0 ^^^ (-1)) &&& (x0 - 1)) >>> (Int32.toUInt32 16 &&& Int32.toUInt32 31))), .int (1 + 16)] [] (N, am_ts T, I, L, am_rs r) Q) else (am_E S 133 (d + 0) 0 0 55 [.int (UInt32.toInt32 (Int32.toUInt32 ((x0 ^^^ (-1)) &&& (x0 - 1)) >>> (Int32.toUInt32 16 &&& Int32.toUInt32 31))), .int (1 + 16)] [] (N, am_ts T, I, L, am_rs r) Q)) from ?_)
        by_cases hc : (UInt32.toInt32 (Int32.toUInt32 ((x0 ^^^ (-1)) &&& (x0 - 1)) >>> (Int32.toUInt32 16 &&& Int32.toUInt32 31))) ≤ 16
        · rw [if_pos hc] at hq ⊢
          refine am_E.run [67, 74] 2000 (show (if (UInt32.toInt32 (Int32.toUInt32 ((x0 ^^^ (-1)) &&& (x0 - 1)) >>> (Int32.toUInt32 16 &&& Int32.toUInt32 31))) ≤ 4 then (am_E S 133 (d + 0) 0 0 74 [.int (UInt32.toInt32 (Int32.toUInt32 ((x0 ^^^ (-1)) &&& (x0 - 1)) >>> (Int32.toUInt32 16 &&& Int32.toUInt32 31))), .int (1 + 16)] [] (N, am_ts T, I, L, am_rs r) Q) else (am_E S 133 (d + 0) 0 0 67 [.int (UInt32.toInt32 (Int32.toUInt32 ((x0 ^^^ (-1)) &&& (x0 - 1)) >>> (Int32.toUInt32 16 &&& Int32.toUInt32 31))), .int (1 + 16)] [] (N, am_ts T, I, L, am_rs r) Q)) from ?_)
          by_cases hc : (UInt32.toInt32 (Int32.toUInt32 ((x0 ^^^ (-1)) &&& (x0 - 1)) >>> (Int32.toUInt32 16 &&& Int32.toUInt32 31))) ≤ 4
          · rw [if_pos hc] at hq ⊢
            refine am_E.run [] 2000 (show (True ∧ Q (some (.int ((1 + 16) + (UInt32.toInt32 (Int32.toUInt32 (UInt32.toInt32 (Int32.toUInt32 ((x0 ^^^ (-1)) &&& (x0 - 1)) >>> (Int32.toUInt32 16 &&& Int32.toUInt32 31))) >>> (Int32.toUInt32 1 &&& Int32.toUInt32 31)))))) (N, am_ts T, I, L, am_rs r)) from ?_)
            exact ⟨trivial, hq⟩
          · rw [if_neg hc] at hq ⊢
            refine am_E.run [] 2000 (show (True ∧ Q (some (.int (((1 + 16) + 2) + (UInt32.toInt32 (Int32.toUInt32 (UInt32.toInt32 (Int32.toUInt32 (UInt32.toInt32 (Int32.toUInt32 ((x0 ^^^ (-1)) &&& (x0 - 1)) >>> (Int32.toUInt32 16 &&& Int32.toUInt32 31))) >>> (Int32.toUInt32 2 &&& Int32.toUInt32 31))) >>> (Int32.toUInt32 1 &&& Int32.toUInt32 31)))))) (N, am_ts T, I, L, am_rs r)) from ?_)
            exact ⟨trivial, hq⟩
        · rw [if_neg hc] at hq ⊢
          refine am_E.run [67, 74] 2000 (show (if (UInt32.toInt32 (Int32.toUInt32 (UInt32.toInt32 (Int32.toUInt32 ((x0 ^^^ (-1)) &&& (x0 - 1)) >>> (Int32.toUInt32 16 &&& Int32.toUInt32 31))) >>> (Int32.toUInt32 4 &&& Int32.toUInt32 31))) ≤ 4 then (am_E S 133 (d + 0) 0 0 74 [.int (UInt32.toInt32 (Int32.toUInt32 (UInt32.toInt32 (Int32.toUInt32 ((x0 ^^^ (-1)) &&& (x0 - 1)) >>> (Int32.toUInt32 16 &&& Int32.toUInt32 31))) >>> (Int32.toUInt32 4 &&& Int32.toUInt32 31))), .int ((1 + 16) + 4)] [] (N, am_ts T, I, L, am_rs r) Q) else (am_E S 133 (d + 0) 0 0 67 [.int (UInt32.toInt32 (Int32.toUInt32 (UInt32.toInt32 (Int32.toUInt32 ((x0 ^^^ (-1)) &&& (x0 - 1)) >>> (Int32.toUInt32 16 &&& Int32.toUInt32 31))) >>> (Int32.toUInt32 4 &&& Int32.toUInt32 31))), .int ((1 + 16) + 4)] [] (N, am_ts T, I, L, am_rs r) Q)) from ?_)
          by_cases hc : (UInt32.toInt32 (Int32.toUInt32 (UInt32.toInt32 (Int32.toUInt32 ((x0 ^^^ (-1)) &&& (x0 - 1)) >>> (Int32.toUInt32 16 &&& Int32.toUInt32 31))) >>> (Int32.toUInt32 4 &&& Int32.toUInt32 31))) ≤ 4
          · rw [if_pos hc] at hq ⊢
            refine am_E.run [] 2000 (show (True ∧ Q (some (.int (((1 + 16) + 4) + (UInt32.toInt32 (Int32.toUInt32 (UInt32.toInt32 (Int32.toUInt32 (UInt32.toInt32 (Int32.toUInt32 ((x0 ^^^ (-1)) &&& (x0 - 1)) >>> (Int32.toUInt32 16 &&& Int32.toUInt32 31))) >>> (Int32.toUInt32 4 &&& Int32.toUInt32 31))) >>> (Int32.toUInt32 1 &&& Int32.toUInt32 31)))))) (N, am_ts T, I, L, am_rs r)) from ?_)
            exact ⟨trivial, hq⟩
          · rw [if_neg hc] at hq ⊢
            refine am_E.run [] 2000 (show (True ∧ Q (some (.int ((((1 + 16) + 4) + 2) + (UInt32.toInt32 (Int32.toUInt32 (UInt32.toInt32 (Int32.toUInt32 (UInt32.toInt32 (Int32.toUInt32 (UInt32.toInt32 (Int32.toUInt32 ((x0 ^^^ (-1)) &&& (x0 - 1)) >>> (Int32.toUInt32 16 &&& Int32.toUInt32 31))) >>> (Int32.toUInt32 4 &&& Int32.toUInt32 31))) >>> (Int32.toUInt32 2 &&& Int32.toUInt32 31))) >>> (Int32.toUInt32 1 &&& Int32.toUInt32 31)))))) (N, am_ts T, I, L, am_rs r)) from ?_)
            exact ⟨trivial, hq⟩
      · rw [if_neg hc] at hq ⊢
        refine am_E.run [55, 62] 2000 (show (if (UInt32.toInt32 (Int32.toUInt32 (UInt32.toInt32 (Int32.toUInt32 ((x0 ^^^ (-1)) &&& (x0 - 1)) >>> (Int32.toUInt32 16 &&& Int32.toUInt32 31))) >>> (Int32.toUInt32 8 &&& Int32.toUInt32 31))) ≤ 16 then (am_E S 133 (d + 0) 0 0 62 [.int (UInt32.toInt32 (Int32.toUInt32 (UInt32.toInt32 (Int32.toUInt32 ((x0 ^^^ (-1)) &&& (x0 - 1)) >>> (Int32.toUInt32 16 &&& Int32.toUInt32 31))) >>> (Int32.toUInt32 8 &&& Int32.toUInt32 31))), .int ((1 + 16) + 8)] [] (N, am_ts T, I, L, am_rs r) Q) else (am_E S 133 (d + 0) 0 0 55 [.int (UInt32.toInt32 (Int32.toUInt32 (UInt32.toInt32 (Int32.toUInt32 ((x0 ^^^ (-1)) &&& (x0 - 1)) >>> (Int32.toUInt32 16 &&& Int32.toUInt32 31))) >>> (Int32.toUInt32 8 &&& Int32.toUInt32 31))), .int ((1 + 16) + 8)] [] (N, am_ts T, I, L, am_rs r) Q)) from ?_)
        by_cases hc : (UInt32.toInt32 (Int32.toUInt32 (UInt32.toInt32 (Int32.toUInt32 ((x0 ^^^ (-1)) &&& (x0 - 1)) >>> (Int32.toUInt32 16 &&& Int32.toUInt32 31))) >>> (Int32.toUInt32 8 &&& Int32.toUInt32 31))) ≤ 16
        · rw [if_pos hc] at hq ⊢
          refine am_E.run [67, 74] 2000 (show (if (UInt32.toInt32 (Int32.toUInt32 (UInt32.toInt32 (Int32.toUInt32 ((x0 ^^^ (-1)) &&& (x0 - 1)) >>> (Int32.toUInt32 16 &&& Int32.toUInt32 31))) >>> (Int32.toUInt32 8 &&& Int32.toUInt32 31))) ≤ 4 then (am_E S 133 (d + 0) 0 0 74 [.int (UInt32.toInt32 (Int32.toUInt32 (UInt32.toInt32 (Int32.toUInt32 ((x0 ^^^ (-1)) &&& (x0 - 1)) >>> (Int32.toUInt32 16 &&& Int32.toUInt32 31))) >>> (Int32.toUInt32 8 &&& Int32.toUInt32 31))), .int ((1 + 16) + 8)] [] (N, am_ts T, I, L, am_rs r) Q) else (am_E S 133 (d + 0) 0 0 67 [.int (UInt32.toInt32 (Int32.toUInt32 (UInt32.toInt32 (Int32.toUInt32 ((x0 ^^^ (-1)) &&& (x0 - 1)) >>> (Int32.toUInt32 16 &&& Int32.toUInt32 31))) >>> (Int32.toUInt32 8 &&& Int32.toUInt32 31))), .int ((1 + 16) + 8)] [] (N, am_ts T, I, L, am_rs r) Q)) from ?_)
          by_cases hc : (UInt32.toInt32 (Int32.toUInt32 (UInt32.toInt32 (Int32.toUInt32 ((x0 ^^^ (-1)) &&& (x0 - 1)) >>> (Int32.toUInt32 16 &&& Int32.toUInt32 31))) >>> (Int32.toUInt32 8 &&& Int32.toUInt32 31))) ≤ 4
          · rw [if_pos hc] at hq ⊢
            refine am_E.run [] 2000 (show (True ∧ Q (some (.int (((1 + 16) + 8) + (UInt32.toInt32 (Int32.toUInt32 (UInt32.toInt32 (Int32.toUInt32 (UInt32.toInt32 (Int32.toUInt32 ((x0 ^^^ (-1)) &&& (x0 - 1)) >>> (Int32.toUInt32 16 &&& Int32.toUInt32 31))) >>> (Int32.toUInt32 8 &&& Int32.toUInt32 31))) >>> (Int32.toUInt32 1 &&& Int32.toUInt32 31)))))) (N, am_ts T, I, L, am_rs r)) from ?_)
            exact ⟨trivial, hq⟩
          · rw [if_neg hc] at hq ⊢
            refine am_E.run [] 2000 (show (True ∧ Q (some (.int ((((1 + 16) + 8) + 2) + (UInt32.toInt32 (Int32.toUInt32 (UInt32.toInt32 (Int32.toUInt32 (UInt32.toInt32 (Int32.toUInt32 (UInt32.toInt32 (Int32.toUInt32 ((x0 ^^^ (-1)) &&& (x0 - 1)) >>> (Int32.toUInt32 16 &&& Int32.toUInt32 31))) >>> (Int32.toUInt32 8 &&& Int32.toUInt32 31))) >>> (Int32.toUInt32 2 &&& Int32.toUInt32 31))) >>> (Int32.toUInt32 1 &&& Int32.toUInt32 31)))))) (N, am_ts T, I, L, am_rs r)) from ?_)
            exact ⟨trivial, hq⟩
        · rw [if_neg hc] at hq ⊢
          refine am_E.run [67, 74] 2000 (show (if (UInt32.toInt32 (Int32.toUInt32 (UInt32.toInt32 (Int32.toUInt32 (UInt32.toInt32 (Int32.toUInt32 ((x0 ^^^ (-1)) &&& (x0 - 1)) >>> (Int32.toUInt32 16 &&& Int32.toUInt32 31))) >>> (Int32.toUInt32 8 &&& Int32.toUInt32 31))) >>> (Int32.toUInt32 4 &&& Int32.toUInt32 31))) ≤ 4 then (am_E S 133 (d + 0) 0 0 74 [.int (UInt32.toInt32 (Int32.toUInt32 (UInt32.toInt32 (Int32.toUInt32 (UInt32.toInt32 (Int32.toUInt32 ((x0 ^^^ (-1)) &&& (x0 - 1)) >>> (Int32.toUInt32 16 &&& Int32.toUInt32 31))) >>> (Int32.toUInt32 8 &&& Int32.toUInt32 31))) >>> (Int32.toUInt32 4 &&& Int32.toUInt32 31))), .int (((1 + 16) + 8) + 4)] [] (N, am_ts T, I, L, am_rs r) Q) else (am_E S 133 (d + 0) 0 0 67 [.int (UInt32.toInt32 (Int32.toUInt32 (UInt32.toInt32 (Int32.toUInt32 (UInt32.toInt32 (Int32.toUInt32 ((x0 ^^^ (-1)) &&& (x0 - 1)) >>> (Int32.toUInt32 16 &&& Int32.toUInt32 31))) >>> (Int32.toUInt32 8 &&& Int32.toUInt32 31))) >>> (Int32.toUInt32 4 &&& Int32.toUInt32 31))), .int (((1 + 16) + 8) + 4)] [] (N, am_ts T, I, L, am_rs r) Q)) from ?_)
          by_cases hc : (UInt32.toInt32 (Int32.toUInt32 (UInt32.toInt32 (Int32.toUInt32 (UInt32.toInt32 (Int32.toUInt32 ((x0 ^^^ (-1)) &&& (x0 - 1)) >>> (Int32.toUInt32 16 &&& Int32.toUInt32 31))) >>> (Int32.toUInt32 8 &&& Int32.toUInt32 31))) >>> (Int32.toUInt32 4 &&& Int32.toUInt32 31))) ≤ 4
          · rw [if_pos hc] at hq ⊢
            refine am_E.run [] 2000 (show (True ∧ Q (some (.int ((((1 + 16) + 8) + 4) + (UInt32.toInt32 (Int32.toUInt32 (UInt32.toInt32 (Int32.toUInt32 (UInt32.toInt32 (Int32.toUInt32 (UInt32.toInt32 (Int32.toUInt32 ((x0 ^^^ (-1)) &&& (x0 - 1)) >>> (Int32.toUInt32 16 &&& Int32.toUInt32 31))) >>> (Int32.toUInt32 8 &&& Int32.toUInt32 31))) >>> (Int32.toUInt32 4 &&& Int32.toUInt32 31))) >>> (Int32.toUInt32 1 &&& Int32.toUInt32 31)))))) (N, am_ts T, I, L, am_rs r)) from ?_)
            exact ⟨trivial, hq⟩
          · rw [if_neg hc] at hq ⊢
            refine am_E.run [] 2000 (show (True ∧ Q (some (.int (((((1 + 16) + 8) + 4) + 2) + (UInt32.toInt32 (Int32.toUInt32 (UInt32.toInt32 (Int32.toUInt32 (UInt32.toInt32 (Int32.toUInt32 (UInt32.toInt32 (Int32.toUInt32 (UInt32.toInt32 (Int32.toUInt32 ((x0 ^^^ (-1)) &&& (x0 - 1)) >>> (Int32.toUInt32 16 &&& Int32.toUInt32 31))) >>> (Int32.toUInt32 8 &&& Int32.toUInt32 31))) >>> (Int32.toUInt32 4 &&& Int32.toUInt32 31))) >>> (Int32.toUInt32 2 &&& Int32.toUInt32 31))) >>> (Int32.toUInt32 1 &&& Int32.toUInt32 31)))))) (N, am_ts T, I, L, am_rs r)) from ?_)
            exact ⟨trivial, hq⟩
  · rw [if_neg hc] at hq ⊢
    refine am_E.run [] 2000 (show (True ∧ Q (some (.int (((x0 ^^^ (-1)) &&& (x0 - 1)) &&& 32))) (N, am_ts T, I, L, am_rs r)) from ?_)
    exact ⟨trivial, hq⟩
/-- KeyKeepers$Rota.oneShare(I)I -/
def f_137 (x0 : Int32) : Int32 :=
  (1 <<< ((3 * x0) &&& 31))
set_option maxRecDepth 100000 in
theorem s_137 {S : am_S} {d : Nat} {N : Nat} {T : Nat → Nat × Nat} {I : am_I} {L : am_J} {r : Nat → Nat → Option Nat} {Q : am_Q} {x0 : Int32} (hq : Q (some (.int (f_137 x0))) (N, am_ts T, I, L, am_rs r)) : am_E S 137 (d + 0) 0 0 0 [.int x0] [] (N, am_ts T, I, L, am_rs r) Q := by
  unfold f_137 at hq
  try dsimp only at hq
  refine am_E.run [] 2000 (show (True ∧ Q (some (.int (1 <<< ((3 * x0) &&& 31)))) (N, am_ts T, I, L, am_rs r)) from ?_)
  exact ⟨trivial, hq⟩
/-- KeyKeepers$Rota.handWith(II)I -/
def w_141 (a : Nat) (x0 : Int32) (x1 : Int32) (T : Nat → Nat × Nat) (r : Nat → Nat → Option Nat) (I : am_I) (K : Int32 → Prop) : Prop :=
  if x0 < 0 then
    K (-1)
  else
    if (165 : Int32) ≤ x0 then
      K (-1)
    else
      (am_ts T a).1 = 9 ∧ ∃ c1, (am_rs r a 3) = some c1 ∧
      ((am_ts T c1).1 = 20) ∧
      ¬ (((x0 * 8) + x1) < 0 ∨ (am_ts T c1).2 ≤ Int32.toNatClampNeg ((x0 * 8) + x1)) ∧
      K (I c1 (Int32.toNatClampNeg ((x0 * 8) + x1)))
set_option maxRecDepth 100000 in
theorem s_141 {S : am_S} {d : Nat} {N : Nat} {T : Nat → Nat × Nat} {I : am_I} {L : am_J} {r : Nat → Nat → Option Nat} {Q : am_Q} {a : Nat} {x0 : Int32} {x1 : Int32} {K : Int32 → Prop} (hw : w_141 a x0 x1 T r I K) (hK : ∀ (q : Int32), K q → Q (some (.int q)) (N, am_ts T, I, L, am_rs r)) : am_E S 141 (d + 0) 0 0 0 [.ref a, .int x0, .int x1] [] (N, am_ts T, I, L, am_rs r) Q := by
  unfold w_141 at hw
  try dsimp only at hw
  refine am_E.run [15] 2000 (show (if x0 < 0 then (True ∧ Q (some (.int (-1))) (N, am_ts T, I, L, am_rs r)) else (if (165 : Int32) ≤ x0 then (True ∧ Q (some (.int (-1))) (N, am_ts T, I, L, am_rs r)) else (if (am_ts T a).1 = 9 ∧ 2 < 4 then (am_E S 141 (d + 0) 0 0 15 [.ref a, .int x0, .int x1] [am_rv (am_rs r a 3)] (N, am_ts T, I, L, am_rs r) Q) else False))) from ?_)
  by_cases hc : x0 < 0
  · rw [if_pos hc] at hw ⊢
    exact ⟨trivial, hK _ hw⟩
  · rw [if_neg hc] at hw ⊢
    by_cases hc : (165 : Int32) ≤ x0
    · rw [if_pos hc] at hw ⊢
      exact ⟨trivial, hK _ hw⟩
    · rw [if_neg hc] at hw ⊢
      refine am_ifp ⟨hw.1, by decide⟩ ?_
      replace hw := hw.2
      obtain ⟨c1, hx, hw⟩ := hw
      rw [hx]
      refine am_E.run [] 2000 (show (if (am_ts T c1).1 = 20 then (if ((x0 * 8) + x1) < 0 ∨ (am_ts T c1).2 ≤ Int32.toNatClampNeg ((x0 * 8) + x1) then False else (True ∧ Q (some (.int (I c1 (Int32.toNatClampNeg ((x0 * 8) + x1))))) (N, am_ts T, I, L, am_rs r))) else False) from ?_)
      refine am_ifp hw.1 ?_
      replace hw := hw.2
      refine am_ifn hw.1 ?_
      replace hw := hw.2
      exact ⟨trivial, hK _ hw⟩
def wb_142_165 (v0 : Nat) (v2 : Int32) (v3 : Int32) (v4 : Int32) (v6 : Int32) (v7 : Int32) (v8 : Int32) (v10 : Int32) (s0 : Nat) (s1 : Int32) (s2 : Int32) (T : Nat → Nat × Nat) (r : Nat → Nat → Option Nat) (I : am_I) (B : Int32 → am_I → Prop) (E0 : Int32 → am_I → Prop) : Prop :=
  ((am_ts T s0).1 = 9) ∧
  ((am_ts T v0).1 = 9) ∧
  if ((am_u I s0 1 (s1 + s2)) v0 0) ≤ v10 then
    B (v8 + 1) (am_u I s0 1 (s1 + s2))
  else
    ((am_ts T v0).1 = 9) ∧
    ((am_ts T v0).1 = 9) ∧
    B (v8 + 1) (am_u (am_u (am_u I s0 1 (s1 + s2)) v0 0 v10) v0 10 v8)
set_option maxRecDepth 100000 in
theorem sb_142_165 {S : am_S} {d : Nat} {N : Nat} {T : Nat → Nat × Nat} {I : am_I} {L : am_J} {r : Nat → Nat → Option Nat} {Q : am_Q} {v0 : Nat} {v2 : Int32} {v3 : Int32} {v4 : Int32} {v6 : Int32} {v7 : Int32} {v8 : Int32} {v10 : Int32} {s0 : Nat} {s1 : Int32} {s2 : Int32} {B : Int32 → am_I → Prop} {E0 : Int32 → am_I → Prop} (hw : wb_142_165 v0 v2 v3 v4 v6 v7 v8 v10 s0 s1 s2 T r I B E0) (hB : ∀ (o8 : Int32) (I1 : am_I), B o8 I1 → am_E S 142 (d + 0) 0 0 53 [.ref v0, .ref 1, .int v2, .int v3, .int v4, am_jk, .int v6, .int v7, .int o8, am_jk, am_jk] [] (N, am_ts T, I1, L, am_rs r) Q) (hE0 : ∀ (o8 : Int32) (I1 : am_I), E0 o8 I1 → am_E S 142 (d + 0) 0 0 196 [.ref v0, .ref 1, .int v2, .int v3, .int v4, am_jk, .int v6, .int v7, .int o8, am_jk, am_jk] [] (N, am_ts T, I1, L, am_rs r) Q) : am_E S 142 (d + 0) 0 0 165 [.ref v0, .ref 1, .int v2, .int v3, .int v4, am_jk, .int v6, .int v7, .int v8, am_jk, .int v10] [.int s2, .int s1, .ref s0] (N, am_ts T, I, L, am_rs r) Q := by
  unfold wb_142_165 at hw
  try dsimp only at hw
  refine am_E.run [53] 2000 (show (if (am_ts T s0).1 = 9 then (if (am_ts T v0).1 = 9 ∧ 0 < 4 then (if ((am_u I s0 1 (s1 + s2)) v0 0) ≤ v10 then (am_E S 142 (d + 0) 0 0 53 [.ref v0, .ref 1, .int v2, .int v3, .int v4, am_jk, .int v6, .int v7, .int (v8 + 1), am_jk, .int v10] [] (N, am_ts T, (am_u I s0 1 (s1 + s2)), L, am_rs r) Q) else (if (am_ts T v0).1 = 9 then (if (am_ts T v0).1 = 9 then (am_E S 142 (d + 0) 0 0 53 [.ref v0, .ref 1, .int v2, .int v3, .int v4, am_jk, .int v6, .int v7, .int (v8 + 1), am_jk, .int v10] [] (N, am_ts T, (am_u (am_u (am_u I s0 1 (s1 + s2)) v0 0 v10) v0 10 v8), L, am_rs r) Q) else False) else False)) else False) else False) from ?_)
  refine am_ifp hw.1 ?_
  replace hw := hw.2
  refine am_ifp ⟨hw.1, by decide⟩ ?_
  replace hw := hw.2
  by_cases hc : ((am_u I s0 1 (s1 + s2)) v0 0) ≤ v10
  · rw [if_pos hc] at hw ⊢
    exact am_E.junk (hB _ _ hw) (am_le.cons (am_le.cons (am_le.cons (am_le.cons (am_le.cons (am_le.cons (am_le.cons (am_le.cons (am_le.cons (am_le.cons (am_le.jk am_le.nil)))))))))))
  · rw [if_neg hc] at hw ⊢
    refine am_ifp hw.1 ?_
    replace hw := hw.2
    refine am_ifp hw.1 ?_
    replace hw := hw.2
    exact am_E.junk (hB _ _ hw) (am_le.cons (am_le.cons (am_le.cons (am_le.cons (am_le.cons (am_le.cons (am_le.cons (am_le.cons (am_le.cons (am_le.cons (am_le.jk am_le.nil)))))))))))
def wb_142_137 (v0 : Nat) (v2 : Int32) (v3 : Int32) (v4 : Int32) (v6 : Int32) (v7 : Int32) (v8 : Int32) (s0 : Int32) (T : Nat → Nat × Nat) (r : Nat → Nat → Option Nat) (I : am_I) (B : Int32 → am_I → Prop) (E0 : Int32 → am_I → Prop) : Prop :=
  ((am_ts T v0).1 = 9) ∧
  if v3 = (-1) then
    wb_142_165 v0 v2 v3 v4 v6 v7 v8 s0 v0 (I v0 1) 1 T r I B E0
  else
    (am_ts T v0).1 = 9 ∧ ∃ c4, (am_rs r v0 8) = some c4 ∧
    ((am_ts T c4).1 = 20) ∧
    ¬ (((v3 * 8) + v8) < 0 ∨ (am_ts T c4).2 ≤ Int32.toNatClampNeg ((v3 * 8) + v8)) ∧
    wb_142_165 v0 v2 v3 v4 v6 v7 v8 s0 v0 (I v0 1) (I c4 (Int32.toNatClampNeg ((v3 * 8) + v8))) T r I B E0
set_option maxRecDepth 100000 in
theorem sb_142_137 {S : am_S} {d : Nat} {N : Nat} {T : Nat → Nat × Nat} {I : am_I} {L : am_J} {r : Nat → Nat → Option Nat} {Q : am_Q} {v0 : Nat} {v2 : Int32} {v3 : Int32} {v4 : Int32} {v6 : Int32} {v7 : Int32} {v8 : Int32} {s0 : Int32} {B : Int32 → am_I → Prop} {E0 : Int32 → am_I → Prop} (hw : wb_142_137 v0 v2 v3 v4 v6 v7 v8 s0 T r I B E0) (hB : ∀ (o8 : Int32) (I1 : am_I), B o8 I1 → am_E S 142 (d + 0) 0 0 53 [.ref v0, .ref 1, .int v2, .int v3, .int v4, am_jk, .int v6, .int v7, .int o8, am_jk, am_jk] [] (N, am_ts T, I1, L, am_rs r) Q) (hE0 : ∀ (o8 : Int32) (I1 : am_I), E0 o8 I1 → am_E S 142 (d + 0) 0 0 196 [.ref v0, .ref 1, .int v2, .int v3, .int v4, am_jk, .int v6, .int v7, .int o8, am_jk, am_jk] [] (N, am_ts T, I1, L, am_rs r) Q) : am_E S 142 (d + 0) 0 0 137 [.ref v0, .ref 1, .int v2, .int v3, .int v4, am_jk, .int v6, .int v7, .int v8, am_jk, am_jk] [.int s0] (N, am_ts T, I, L, am_rs r) Q := by
  unfold wb_142_137 at hw
  try dsimp only at hw
  refine am_E.run [157, 165] 2000 (show (if (am_ts T v0).1 = 9 ∧ 0 < 4 then (if v3 = (-1) then (am_E S 142 (d + 0) 0 0 165 [.ref v0, .ref 1, .int v2, .int v3, .int v4, am_jk, .int v6, .int v7, .int v8, am_jk, .int s0] [.int 1, .int (I v0 1), .ref v0] (N, am_ts T, I, L, am_rs r) Q) else (if (am_ts T v0).1 = 9 ∧ 2 < 4 then (am_E S 142 (d + 0) 0 0 157 [.ref v0, .ref 1, .int v2, .int v3, .int v4, am_jk, .int v6, .int v7, .int v8, am_jk, .int s0] [am_rv (am_rs r v0 8), .int (I v0 1), .ref v0] (N, am_ts T, I, L, am_rs r) Q) else False)) else False) from ?_)
  refine am_ifp ⟨hw.1, by decide⟩ ?_
  replace hw := hw.2
  by_cases hc : v3 = (-1)
  · rw [if_pos hc] at hw ⊢
    exact sb_142_165 hw hB hE0
  · rw [if_neg hc] at hw ⊢
    refine am_ifp ⟨hw.1, by decide⟩ ?_
    replace hw := hw.2
    obtain ⟨c4, hx, hw⟩ := hw
    rw [hx]
    refine am_E.run [165] 2000 (show (if (am_ts T c4).1 = 20 then (if ((v3 * 8) + v8) < 0 ∨ (am_ts T c4).2 ≤ Int32.toNatClampNeg ((v3 * 8) + v8) then False else (am_E S 142 (d + 0) 0 0 165 [.ref v0, .ref 1, .int v2, .int v3, .int v4, am_jk, .int v6, .int v7, .int v8, am_jk, .int s0] [.int (I c4 (Int32.toNatClampNeg ((v3 * 8) + v8))), .int (I v0 1), .ref v0] (N, am_ts T, I, L, am_rs r) Q)) else False) from ?_)
    refine am_ifp hw.1 ?_
    replace hw := hw.2
    refine am_ifn hw.1 ?_
    replace hw := hw.2
    exact sb_142_165 hw hB hE0
def wb_142_89 (v0 : Nat) (v2 : Int32) (v3 : Int32) (v4 : Int32) (v6 : Int32) (v7 : Int32) (v8 : Int32) (s0 : Nat) (s1 : Int32) (T : Nat → Nat × Nat) (r : Nat → Nat → Option Nat) (I : am_I) (B : Int32 → am_I → Prop) (E0 : Int32 → am_I → Prop) : Prop :=
  ((am_ts T s0).1 = 20) ∧
  ¬ (s1 < 0 ∨ (am_ts T s0).2 ≤ Int32.toNatClampNeg s1) ∧
  if (I s0 (Int32.toNatClampNeg s1)) = (-1) then
    B (v8 + 1) I
  else
    if v7 ≤ ((v2 >>> ((3 * v8) &&& 31)) &&& 7) then
      B (v8 + 1) I
    else
      if v3 = (-1) then
        wb_142_137 v0 v2 v3 v4 v6 v7 v8 (I s0 (Int32.toNatClampNeg s1)) T r I B E0
      else
        (am_ts T v0).1 = 9 ∧ ∃ c3, (am_rs r v0 7) = some c3 ∧
        ((am_ts T c3).1 = 20) ∧
        ¬ (((v3 * 8) + v8) < 0 ∨ (am_ts T c3).2 ≤ Int32.toNatClampNeg ((v3 * 8) + v8)) ∧
        wb_142_137 v0 v2 v3 v4 v6 v7 v8 ((I s0 (Int32.toNatClampNeg s1)) + (I c3 (Int32.toNatClampNeg ((v3 * 8) + v8)))) T r I B E0
set_option maxRecDepth 100000 in
theorem sb_142_89 {S : am_S} {d : Nat} {N : Nat} {T : Nat → Nat × Nat} {I : am_I} {L : am_J} {r : Nat → Nat → Option Nat} {Q : am_Q} {v0 : Nat} {v2 : Int32} {v3 : Int32} {v4 : Int32} {v6 : Int32} {v7 : Int32} {v8 : Int32} {s0 : Nat} {s1 : Int32} {B : Int32 → am_I → Prop} {E0 : Int32 → am_I → Prop} (hw : wb_142_89 v0 v2 v3 v4 v6 v7 v8 s0 s1 T r I B E0) (hB : ∀ (o8 : Int32) (I1 : am_I), B o8 I1 → am_E S 142 (d + 0) 0 0 53 [.ref v0, .ref 1, .int v2, .int v3, .int v4, am_jk, .int v6, .int v7, .int o8, am_jk, am_jk] [] (N, am_ts T, I1, L, am_rs r) Q) (hE0 : ∀ (o8 : Int32) (I1 : am_I), E0 o8 I1 → am_E S 142 (d + 0) 0 0 196 [.ref v0, .ref 1, .int v2, .int v3, .int v4, am_jk, .int v6, .int v7, .int o8, am_jk, am_jk] [] (N, am_ts T, I1, L, am_rs r) Q) : am_E S 142 (d + 0) 0 0 89 [.ref v0, .ref 1, .int v2, .int v3, .int v4, am_jk, .int v6, .int v7, .int v8, am_jk, am_jk] [.int s1, .ref s0] (N, am_ts T, I, L, am_rs r) Q := by
  unfold wb_142_89 at hw
  try dsimp only at hw
  refine am_E.run [53, 128, 137] 2000 (show (if (am_ts T s0).1 = 20 then (if s1 < 0 ∨ (am_ts T s0).2 ≤ Int32.toNatClampNeg s1 then False else (if (I s0 (Int32.toNatClampNeg s1)) = (-1) then (am_E S 142 (d + 0) 0 0 53 [.ref v0, .ref 1, .int v2, .int v3, .int v4, am_jk, .int v6, .int v7, .int (v8 + 1), .int (I s0 (Int32.toNatClampNeg s1)), am_jk] [] (N, am_ts T, I, L, am_rs r) Q) else (if v7 ≤ ((v2 >>> ((3 * v8) &&& 31)) &&& 7) then (am_E S 142 (d + 0) 0 0 53 [.ref v0, .ref 1, .int v2, .int v3, .int v4, am_jk, .int v6, .int v7, .int (v8 + 1), .int (I s0 (Int32.toNatClampNeg s1)), am_jk] [] (N, am_ts T, I, L, am_rs r) Q) else (if v3 = (-1) then (am_E S 142 (d + 0) 0 0 137 [.ref v0, .ref 1, .int v2, .int v3, .int v4, am_jk, .int v6, .int v7, .int v8, .int (I s0 (Int32.toNatClampNeg s1)), am_jk] [.int (I s0 (Int32.toNatClampNeg s1))] (N, am_ts T, I, L, am_rs r) Q) else (if (am_ts T v0).1 = 9 ∧ 2 < 4 then (am_E S 142 (d + 0) 0 0 128 [.ref v0, .ref 1, .int v2, .int v3, .int v4, am_jk, .int v6, .int v7, .int v8, .int (I s0 (Int32.toNatClampNeg s1)), am_jk] [am_rv (am_rs r v0 7), .int (I s0 (Int32.toNatClampNeg s1))] (N, am_ts T, I, L, am_rs r) Q) else False))))) else False) from ?_)
  refine am_ifp hw.1 ?_
  replace hw := hw.2
  refine am_ifn hw.1 ?_
  replace hw := hw.2
  by_cases hc : (I s0 (Int32.toNatClampNeg s1)) = (-1)
  · rw [if_pos hc] at hw ⊢
    exact am_E.junk (hB _ _ hw) (am_le.cons (am_le.cons (am_le.cons (am_le.cons (am_le.cons (am_le.cons (am_le.cons (am_le.cons (am_le.cons (am_le.jk (am_le.cons am_le.nil)))))))))))
  · rw [if_neg hc] at hw ⊢
    by_cases hc : v7 ≤ ((v2 >>> ((3 * v8) &&& 31)) &&& 7)
    · rw [if_pos hc] at hw ⊢
      exact am_E.junk (hB _ _ hw) (am_le.cons (am_le.cons (am_le.cons (am_le.cons (am_le.cons (am_le.cons (am_le.cons (am_le.cons (am_le.cons (am_le.jk (am_le.cons am_le.nil)))))))))))
    · rw [if_neg hc] at hw ⊢
      by_cases hc : v3 = (-1)
      · rw [if_pos hc] at hw ⊢
        exact am_E.junk (sb_142_137 hw hB hE0) (am_le.cons (am_le.cons (am_le.cons (am_le.cons (am_le.cons (am_le.cons (am_le.cons (am_le.cons (am_le.cons (am_le.jk (am_le.cons am_le.nil)))))))))))
      · rw [if_neg hc] at hw ⊢
        refine am_ifp ⟨hw.1, by decide⟩ ?_
        replace hw := hw.2
        obtain ⟨c3, hx, hw⟩ := hw
        rw [hx]
        refine am_E.run [137] 2000 (show (if (am_ts T c3).1 = 20 then (if ((v3 * 8) + v8) < 0 ∨ (am_ts T c3).2 ≤ Int32.toNatClampNeg ((v3 * 8) + v8) then False else (am_E S 142 (d + 0) 0 0 137 [.ref v0, .ref 1, .int v2, .int v3, .int v4, am_jk, .int v6, .int v7, .int v8, .int (I s0 (Int32.toNatClampNeg s1)), am_jk] [.int ((I s0 (Int32.toNatClampNeg s1)) + (I c3 (Int32.toNatClampNeg ((v3 * 8) + v8))))] (N, am_ts T, I, L, am_rs r) Q)) else False) from ?_)
        refine am_ifp hw.1 ?_
        replace hw := hw.2
        refine am_ifn hw.1 ?_
        replace hw := hw.2
        exact am_E.junk (sb_142_137 hw hB hE0) (am_le.cons (am_le.cons (am_le.cons (am_le.cons (am_le.cons (am_le.cons (am_le.cons (am_le.cons (am_le.cons (am_le.jk (am_le.cons am_le.nil)))))))))))
def lw_142_53 : Nat → Nat → Int32 → Int32 → Int32 → Int32 → Int32 → Int32 → (Nat → Nat × Nat) → (Nat → Nat → Option Nat) → am_I → (Int32 → am_I → Prop) → Prop
  | 0, _, _, _, _, _, _, _, _, _, _, _ => False
  | n + 1, v0, v2, v3, v4, v6, v7, v8, T, r, I, E0 =>
    if (I 1 10) ≤ v8 then
      E0 v8 I
    else
      (am_ts T v0).1 = 9 ∧ ∃ c2, (am_rs r v0 9) = some c2 ∧
      if v8 = v4 then
        wb_142_89 v0 v2 v3 v4 v6 v7 v8 c2 ((v6 + 8) + v8) T r I (fun v8 I => lw_142_53 n v0 v2 v3 v4 v6 v7 v8 T r I E0) E0
      else
        wb_142_89 v0 v2 v3 v4 v6 v7 v8 c2 (v6 + v8) T r I (fun v8 I => lw_142_53 n v0 v2 v3 v4 v6 v7 v8 T r I E0) E0
set_option maxRecDepth 100000 in
theorem sl_142_53 {S : am_S} {d : Nat} {Q : am_Q} {N : Nat} {T : Nat → Nat × Nat} {L : am_J} {r : Nat → Nat → Option Nat} {E0 : Int32 → am_I → Prop} : ∀ (n : Nat) {v0 : Nat} {v2 : Int32} {v3 : Int32} {v4 : Int32} {v6 : Int32} {v7 : Int32} {v8 : Int32} {I : am_I}, lw_142_53 n v0 v2 v3 v4 v6 v7 v8 T r I E0 → (∀ (o8 : Int32) (I1 : am_I), E0 o8 I1 → am_E S 142 (d + 0) 0 0 196 [.ref v0, .ref 1, .int v2, .int v3, .int v4, am_jk, .int v6, .int v7, .int o8, am_jk, am_jk] [] (N, am_ts T, I1, L, am_rs r) Q) → am_E S 142 (d + 0) 0 0 53 [.ref v0, .ref 1, .int v2, .int v3, .int v4, am_jk, .int v6, .int v7, .int v8, am_jk, am_jk] [] (N, am_ts T, I, L, am_rs r) Q
  | 0, _, _, _, _, _, _, _, _, hw, _ => hw.elim
  | n + 1, v0, v2, v3, v4, v6, v7, v8, I, hw, hE0 => by
    have ih := @sl_142_53 S d Q N T L r E0 n
    unfold lw_142_53 at hw
    try dsimp only at hw
    refine am_E.run [66, 196] 2000 (show (if (I 1 10) ≤ v8 then (am_E S 142 (d + 0) 0 0 196 [.ref v0, .ref 1, .int v2, .int v3, .int v4, am_jk, .int v6, .int v7, .int v8, am_jk, am_jk] [] (N, am_ts T, I, L, am_rs r) Q) else (if (am_ts T v0).1 = 9 ∧ 2 < 4 then (am_E S 142 (d + 0) 0 0 66 [.ref v0, .ref 1, .int v2, .int v3, .int v4, am_jk, .int v6, .int v7, .int v8, am_jk, am_jk] [am_rv (am_rs r v0 9)] (N, am_ts T, I, L, am_rs r) Q) else False)) from ?_)
    by_cases hc : (I 1 10) ≤ v8
    · rw [if_pos hc] at hw ⊢
      exact hE0 _ _ hw
    · rw [if_neg hc] at hw ⊢
      refine am_ifp ⟨hw.1, by decide⟩ ?_
      replace hw := hw.2
      obtain ⟨c2, hx, hw⟩ := hw
      rw [hx]
      refine am_E.run [89] 2000 (show (if v8 = v4 then (am_E S 142 (d + 0) 0 0 89 [.ref v0, .ref 1, .int v2, .int v3, .int v4, am_jk, .int v6, .int v7, .int v8, am_jk, am_jk] [.int ((v6 + 8) + v8), .ref c2] (N, am_ts T, I, L, am_rs r) Q) else (am_E S 142 (d + 0) 0 0 89 [.ref v0, .ref 1, .int v2, .int v3, .int v4, am_jk, .int v6, .int v7, .int v8, am_jk, am_jk] [.int (v6 + v8), .ref c2] (N, am_ts T, I, L, am_rs r) Q)) from ?_)
      by_cases hc : v8 = v4
      · rw [if_pos hc] at hw ⊢
        exact sb_142_89 hw (fun _ _ hw => ih hw hE0) hE0
      · rw [if_neg hc] at hw ⊢
        exact sb_142_89 hw (fun _ _ hw => ih hw hE0) hE0
def wb_142_15 (v0 : Nat) (v2 : Int32) (v3 : Int32) (v4 : Int32) (s0 : Int32) (T : Nat → Nat × Nat) (r : Nat → Nat → Option Nat) (I : am_I) (K : am_I → Prop) : Prop :=
  ((am_ts T v0).1 = 9) ∧
  ((am_ts T v0).1 = 9) ∧
  ((am_ts T v0).1 = 9) ∧
  ∃ n53, lw_142_53 n53 v0 v2 v3 v4 ((s0 * 2) * 8) (I 12 1) 0 T r (am_u (am_u (am_u I v0 0 1000000) v0 1 0) v0 10 0) (fun o5 I6 =>
    K I6)
set_option maxRecDepth 100000 in
theorem sb_142_15 {S : am_S} {d : Nat} {N : Nat} {T : Nat → Nat × Nat} {I : am_I} {L : am_J} {r : Nat → Nat → Option Nat} {Q : am_Q} {v0 : Nat} {v2 : Int32} {v3 : Int32} {v4 : Int32} {s0 : Int32} {K : am_I → Prop} (hw : wb_142_15 v0 v2 v3 v4 s0 T r I K) (hK : ∀ (I1 : am_I), K I1 → Q (none) (N, am_ts T, I1, L, am_rs r)) : am_E S 142 (d + 0) 0 0 15 [.ref v0, .ref 1, .int v2, .int v3, .int v4, am_jk, am_jk, am_jk, am_jk, am_jk, am_jk] [.int s0] (N, am_ts T, I, L, am_rs r) Q := by
  unfold wb_142_15 at hw
  try dsimp only at hw
  refine am_E.run [53] 2000 (show (if (am_ts T v0).1 = 9 then (if (am_ts T v0).1 = 9 then (if (am_ts T v0).1 = 9 then (am_E S 142 (d + 0) 0 0 53 [.ref v0, .ref 1, .int v2, .int v3, .int v4, .int s0, .int ((s0 * 2) * 8), .int (I 12 1), .int 0, am_jk, am_jk] [] (N, am_ts T, (am_u (am_u (am_u I v0 0 1000000) v0 1 0) v0 10 0), L, am_rs r) Q) else False) else False) else False) from ?_)
  refine am_ifp hw.1 ?_
  replace hw := hw.2
  refine am_ifp hw.1 ?_
  replace hw := hw.2
  refine am_ifp hw.1 ?_
  replace hw := hw.2
  obtain ⟨n53, hw⟩ := hw
  refine am_E.junk (lo := [.ref v0, .ref 1, .int v2, .int v3, .int v4, am_jk, .int ((s0 * 2) * 8), .int (I 12 1), .int 0, am_jk, am_jk]) ?_ (am_le.cons (am_le.cons (am_le.cons (am_le.cons (am_le.cons (am_le.jk (am_le.cons (am_le.cons (am_le.cons (am_le.cons (am_le.cons am_le.nil)))))))))))
  refine sl_142_53 n53 hw (fun o5 I6 hw => ?_)
  · try dsimp only at hw
    refine am_E.run [] 2000 (show (True ∧ Q (none) (N, am_ts T, I6, L, am_rs r)) from ?_)
    exact ⟨trivial, hK _ hw⟩
/-- KeyKeepers$Rota.weigh(LKeyKeepers$Prison;III)V -/
def w_142 (a : Nat) (x1 : Int32) (x2 : Int32) (x3 : Int32) (T : Nat → Nat × Nat) (r : Nat → Nat → Option Nat) (I : am_I) (K : am_I → Prop) : Prop :=
  if x2 = (-1) then
    wb_142_15 a x1 x2 x3 5 T r I K
  else
    (am_ts T a).1 = 9 ∧ ∃ c1, (am_rs r a 4) = some c1 ∧
    ((am_ts T c1).1 = 20) ∧
    ¬ (x2 < 0 ∨ (am_ts T c1).2 ≤ Int32.toNatClampNeg x2) ∧
    wb_142_15 a x1 x2 x3 (I c1 (Int32.toNatClampNeg x2)) T r I K
set_option maxRecDepth 100000 in
theorem s_142 {S : am_S} {d : Nat} {N : Nat} {T : Nat → Nat × Nat} {I : am_I} {L : am_J} {r : Nat → Nat → Option Nat} {Q : am_Q} {a : Nat} {x1 : Int32} {x2 : Int32} {x3 : Int32} {K : am_I → Prop} (hw : w_142 a x1 x2 x3 T r I K) (hK : ∀ (I1 : am_I), K I1 → Q (none) (N, am_ts T, I1, L, am_rs r)) : am_E S 142 (d + 0) 0 0 0 [.ref a, .ref 1, .int x1, .int x2, .int x3, am_jk, am_jk, am_jk, am_jk, am_jk, am_jk] [] (N, am_ts T, I, L, am_rs r) Q := by
  unfold w_142 at hw
  try dsimp only at hw
  refine am_E.run [13, 15] 2000 (show (if x2 = (-1) then (am_E S 142 (d + 0) 0 0 15 [.ref a, .ref 1, .int x1, .int x2, .int x3, am_jk, am_jk, am_jk, am_jk, am_jk, am_jk] [.int 5] (N, am_ts T, I, L, am_rs r) Q) else (if (am_ts T a).1 = 9 ∧ 2 < 4 then (am_E S 142 (d + 0) 0 0 13 [.ref a, .ref 1, .int x1, .int x2, .int x3, am_jk, am_jk, am_jk, am_jk, am_jk, am_jk] [am_rv (am_rs r a 4)] (N, am_ts T, I, L, am_rs r) Q) else False)) from ?_)
  by_cases hc : x2 = (-1)
  · rw [if_pos hc] at hw ⊢
    exact sb_142_15 hw hK
  · rw [if_neg hc] at hw ⊢
    refine am_ifp ⟨hw.1, by decide⟩ ?_
    replace hw := hw.2
    obtain ⟨c1, hx, hw⟩ := hw
    rw [hx]
    refine am_E.run [15] 2000 (show (if (am_ts T c1).1 = 20 then (if x2 < 0 ∨ (am_ts T c1).2 ≤ Int32.toNatClampNeg x2 then False else (am_E S 142 (d + 0) 0 0 15 [.ref a, .ref 1, .int x1, .int x2, .int x3, am_jk, am_jk, am_jk, am_jk, am_jk, am_jk] [.int (I c1 (Int32.toNatClampNeg x2))] (N, am_ts T, I, L, am_rs r) Q)) else False) from ?_)
    refine am_ifp hw.1 ?_
    replace hw := hw.2
    refine am_ifn hw.1 ?_
    replace hw := hw.2
    exact sb_142_15 hw hK
