def wb_233_88 (v1 : Int32) (v2 : Int32) (v3 : Int32) (I : am_I) (L : am_J) (K : Int32 → am_I → am_J → Prop) : Prop :=
  w_234 (I 68 4) v1 v3 v2 I L (fun q1 I2 L3 =>
    K q1 I2 L3)
set_option maxHeartbeats 6000000 in
set_option maxRecDepth 100000 in
theorem sb_233_88 {S : am_S} {d : Nat} {N : Nat} {T : Nat → Nat × Nat} {I : am_I} {L : am_J} {r : Nat → Nat → Option Nat} {Q : am_Q} {v1 : Int32} {v2 : Int32} {v3 : Int32} {K : Int32 → am_I → am_J → Prop} (hw : wb_233_88 v1 v2 v3 I L K) (hK : ∀ (q : Int32) (I1 : am_I) (L1 : am_J), K q I1 L1 → Q (some (.int q)) (N, am_ts T, I1, L1, am_rs r)) : am_E S 233 (d + 7) 0 0 88 [.ref 66, .int v1, .int v2, .int v3] [] (N, am_ts T, I, L, am_rs r) Q := by
  unfold wb_233_88 at hw
  try dsimp only at hw
  refine am_E.run [98] 2000 (show (am_E S 233 (d + 7) 0 0 98 [.ref 66, .int v1, .int v2, .int v3] [.int v2, .int v3, .int v1, .int (I 68 4), .ref 66] (N, am_ts T, I, L, am_rs r) Q) from ?_)
  refine am_E.go ⟨am_ki_IL N T r _, s_234 hw (fun q1 I2 L3 hk => ⟨q1, I2, L3, rfl, rfl, hk⟩), ?_⟩
  intro v h9 hv
  obtain ⟨q1, I2, L3, rfl, rfl, hw⟩ := hv
  try dsimp only at hw
  refine am_E.run [] 2000 (show (True ∧ Q (some (.int q1)) (N, am_ts T, I2, L3, am_rs r)) from ?_)
  exact ⟨trivial, hK _ _ _ hw⟩
def wb_233_102 (v1 : Int32) (v2 : Int32) (v3 : Int32) (I : am_I) (L : am_J) (K : Int32 → am_I → am_J → Prop) : Prop :=
  w_242 v1 v3 (v2 - 2) I L (fun q4 I5 L6 =>
    if q4 = 0 then
      K 0 I5 L6
    else
      K 1 I5 L6)
set_option maxHeartbeats 6000000 in
set_option maxRecDepth 100000 in
theorem sb_233_102 {S : am_S} {d : Nat} {N : Nat} {T : Nat → Nat × Nat} {I : am_I} {L : am_J} {r : Nat → Nat → Option Nat} {Q : am_Q} {v1 : Int32} {v2 : Int32} {v3 : Int32} {K : Int32 → am_I → am_J → Prop} (hw : wb_233_102 v1 v2 v3 I L K) (hK : ∀ (q : Int32) (I1 : am_I) (L1 : am_J), K q I1 L1 → Q (some (.int q)) (N, am_ts T, I1, L1, am_rs r)) : am_E S 233 (d + 7) 0 0 102 [.ref 66, .int v1, .int v2, .int v3] [] (N, am_ts T, I, L, am_rs r) Q := by
  unfold wb_233_102 at hw
  try dsimp only at hw
  refine am_E.run [108] 2000 (show (am_E S 233 (d + 7) 0 0 108 [.ref 66, .int v1, .int v2, .int v3] [.int (v2 - 2), .int v3, .int v1, .ref 66] (N, am_ts T, I, L, am_rs r) Q) from ?_)
  refine am_E.go ⟨am_ki_IL N T r _, s_242 hw (fun q4 I5 L6 hk => ⟨q4, I5, L6, rfl, rfl, hk⟩), ?_⟩
  intro v h9 hv
  obtain ⟨q4, I5, L6, rfl, rfl, hw⟩ := hv
  try dsimp only at hw
  refine am_E.run [] 2000 (show (if q4 = 0 then (True ∧ Q (some (.int 0)) (N, am_ts T, I5, L6, am_rs r)) else (True ∧ Q (some (.int 1)) (N, am_ts T, I5, L6, am_rs r))) from ?_)
  by_cases hc : q4 = 0
  · rw [if_pos hc] at hw ⊢
    exact ⟨trivial, hK _ _ _ hw⟩
  · rw [if_neg hc] at hw ⊢
    exact ⟨trivial, hK _ _ _ hw⟩
def wb_233_42 (v1 : Int32) (v2 : Int32) (v3 : Int32) (s0 : Int64) (s1 : Int64) (s2 : Int64) (I : am_I) (L : am_J) (K : Int32 → am_I → am_J → Prop) : Prop :=
  if (f_182 s0 s1 s2) = 0 then
    K (-1) I L
  else
    if v2 = 0 then
      wb_233_88 v1 v2 v3 I L K
    else
    if v2 = 1 then
      wb_233_88 v1 v2 v3 I L K
    else
    if v2 = 2 then
      wb_233_102 v1 v2 v3 I L K
    else
    if v2 = 3 then
      wb_233_102 v1 v2 v3 I L K
    else
    if v2 = 4 then
      w_243 v1 v3 I L (fun q7 I8 L9 =>
        K q7 I8 L9)
    else
    if v2 = 5 then
      w_244 v1 v3 I L (fun q10 I11 L12 =>
        K q10 I11 L12)
    else
    w_245 v1 v3 I L (fun q13 I14 L15 =>
      if q13 = 0 then
        K 0 I14 L15
      else
        K 1 I14 L15)
set_option maxHeartbeats 6000000 in
set_option maxRecDepth 100000 in
theorem sb_233_42 {S : am_S} {d : Nat} {N : Nat} {T : Nat → Nat × Nat} {I : am_I} {L : am_J} {r : Nat → Nat → Option Nat} {Q : am_Q} {v1 : Int32} {v2 : Int32} {v3 : Int32} {s0 : Int64} {s1 : Int64} {s2 : Int64} {K : Int32 → am_I → am_J → Prop} (hw : wb_233_42 v1 v2 v3 s0 s1 s2 I L K) (hK : ∀ (q : Int32) (I1 : am_I) (L1 : am_J), K q I1 L1 → Q (some (.int q)) (N, am_ts T, I1, L1, am_rs r)) : am_E S 233 (d + 7) 0 0 42 [.ref 66, .int v1, .int v2, .int v3] [.long s2, .long s1, .long s0] (N, am_ts T, I, L, am_rs r) Q := by
  unfold wb_233_42 at hw
  try dsimp only at hw
  show (am_E S 233 (d + 7) 0 0 42 [.ref 66, .int v1, .int v2, .int v3] [.long s2, .long s1, .long s0] (N, am_ts T, I, L, am_rs r) Q)
  refine am_E.go ⟨fun v h9 => v = some (.int (f_182 s0 s1 s2)) ∧ h9 = (N, am_ts T, I, L, am_rs r), s_182 ⟨rfl, rfl⟩, ?_⟩
  intro v h9 hv
  obtain ⟨rfl, rfl⟩ := hv
  refine am_E.run [51] 2000 (show (if (f_182 s0 s1 s2) = 0 then (True ∧ Q (some (.int (-1))) (N, am_ts T, I, L, am_rs r)) else (am_E S 233 (d + 7) 0 0 51 [.ref 66, .int v1, .int v2, .int v3] [.int v2] (N, am_ts T, I, L, am_rs r) Q)) from ?_)
  by_cases hc : (f_182 s0 s1 s2) = 0
  · rw [if_pos hc] at hw ⊢
    exact ⟨trivial, hK _ _ _ hw⟩
  · rw [if_neg hc] at hw ⊢
    by_cases hc0 : v2 = 0
    · rw [if_pos hc0] at hw
      refine am_E.swap (k := 0) hc0 ?_
      refine am_E.go (show (am_E S 233 (d + 7) 0 0 88 [.ref 66, .int v1, .int v2, .int v3] [] (N, am_ts T, I, L, am_rs r) Q) from ?_)
      show (am_E S 233 (d + 7) 0 0 88 [.ref 66, .int v1, .int v2, .int v3] [] (N, am_ts T, I, L, am_rs r) Q)
      exact sb_233_88 hw hK
    rw [if_neg hc0] at hw
    by_cases hc1 : v2 = 1
    · rw [if_pos hc1] at hw
      refine am_E.swap (k := 1) hc1 ?_
      refine am_E.go (show (am_E S 233 (d + 7) 0 0 88 [.ref 66, .int v1, .int v2, .int v3] [] (N, am_ts T, I, L, am_rs r) Q) from ?_)
      show (am_E S 233 (d + 7) 0 0 88 [.ref 66, .int v1, .int v2, .int v3] [] (N, am_ts T, I, L, am_rs r) Q)
      exact sb_233_88 hw hK
    rw [if_neg hc1] at hw
    by_cases hc2 : v2 = 2
    · rw [if_pos hc2] at hw
      refine am_E.swap (k := 2) hc2 ?_
      refine am_E.go (show (am_E S 233 (d + 7) 0 0 102 [.ref 66, .int v1, .int v2, .int v3] [] (N, am_ts T, I, L, am_rs r) Q) from ?_)
      show (am_E S 233 (d + 7) 0 0 102 [.ref 66, .int v1, .int v2, .int v3] [] (N, am_ts T, I, L, am_rs r) Q)
      exact sb_233_102 hw hK
    rw [if_neg hc2] at hw
    by_cases hc3 : v2 = 3
    · rw [if_pos hc3] at hw
      refine am_E.swap (k := 3) hc3 ?_
      refine am_E.go (show (am_E S 233 (d + 7) 0 0 102 [.ref 66, .int v1, .int v2, .int v3] [] (N, am_ts T, I, L, am_rs r) Q) from ?_)
      show (am_E S 233 (d + 7) 0 0 102 [.ref 66, .int v1, .int v2, .int v3] [] (N, am_ts T, I, L, am_rs r) Q)
      exact sb_233_102 hw hK
    rw [if_neg hc3] at hw
    by_cases hc4 : v2 = 4
    · rw [if_pos hc4] at hw
      refine am_E.swap (k := 4) hc4 ?_
      refine am_E.go (show (am_E S 233 (d + 7) 0 0 120 [.ref 66, .int v1, .int v2, .int v3] [] (N, am_ts T, I, L, am_rs r) Q) from ?_)
      refine am_E.run [123] 2000 (show (am_E S 233 (d + 7) 0 0 123 [.ref 66, .int v1, .int v2, .int v3] [.int v3, .int v1, .ref 66] (N, am_ts T, I, L, am_rs r) Q) from ?_)
      refine am_E.go ⟨am_ki_IL N T r _, s_243 hw (fun q7 I8 L9 hk => ⟨q7, I8, L9, rfl, rfl, hk⟩), ?_⟩
      intro v h9 hv
      obtain ⟨q7, I8, L9, rfl, rfl, hw⟩ := hv
      try dsimp only at hw
      refine am_E.run [] 2000 (show (True ∧ Q (some (.int q7)) (N, am_ts T, I8, L9, am_rs r)) from ?_)
      exact ⟨trivial, hK _ _ _ hw⟩
    rw [if_neg hc4] at hw
    by_cases hc5 : v2 = 5
    · rw [if_pos hc5] at hw
      refine am_E.swap (k := 5) hc5 ?_
      refine am_E.go (show (am_E S 233 (d + 7) 0 0 127 [.ref 66, .int v1, .int v2, .int v3] [] (N, am_ts T, I, L, am_rs r) Q) from ?_)
      refine am_E.run [130] 2000 (show (am_E S 233 (d + 7) 0 0 130 [.ref 66, .int v1, .int v2, .int v3] [.int v3, .int v1, .ref 66] (N, am_ts T, I, L, am_rs r) Q) from ?_)
      refine am_E.go ⟨am_ki_IL N T r _, s_244 hw (fun q10 I11 L12 hk => ⟨q10, I11, L12, rfl, rfl, hk⟩), ?_⟩
      intro v h9 hv
      obtain ⟨q10, I11, L12, rfl, rfl, hw⟩ := hv
      try dsimp only at hw
      refine am_E.run [] 2000 (show (True ∧ Q (some (.int q10)) (N, am_ts T, I11, L12, am_rs r)) from ?_)
      exact ⟨trivial, hK _ _ _ hw⟩
    rw [if_neg hc5] at hw
    have hd : (v2).toInt < 0 ∨ 5 < (v2).toInt := by
      have g0 := am_ine hc0
      have g1 := am_ine hc1
      have g2 := am_ine hc2
      have g3 := am_ine hc3
      have g4 := am_ine hc4
      have g5 := am_ine hc5
      change (v2).toInt ≠ 0 at g0
      change (v2).toInt ≠ 1 at g1
      change (v2).toInt ≠ 2 at g2
      change (v2).toInt ≠ 3 at g3
      change (v2).toInt ≠ 4 at g4
      change (v2).toInt ≠ 5 at g5
      omega
    refine am_E.go (show (if (v2).toInt < 0 ∨ 5 < (v2).toInt then (am_E S 233 (d + 7) 0 0 134 [.ref 66, .int v1, .int v2, .int v3] [] (N, am_ts T, I, L, am_rs r) Q) else _) from ?_)
    rw [if_pos hd]
    refine am_E.run [137] 2000 (show (am_E S 233 (d + 7) 0 0 137 [.ref 66, .int v1, .int v2, .int v3] [.int v3, .int v1, .ref 66] (N, am_ts T, I, L, am_rs r) Q) from ?_)
    refine am_E.go ⟨am_ki_IL N T r _, s_245 hw (fun q13 I14 L15 hk => ⟨q13, I14, L15, rfl, rfl, hk⟩), ?_⟩
    intro v h9 hv
    obtain ⟨q13, I14, L15, rfl, rfl, hw⟩ := hv
    try dsimp only at hw
    refine am_E.run [] 2000 (show (if q13 = 0 then (True ∧ Q (some (.int 0)) (N, am_ts T, I14, L15, am_rs r)) else (True ∧ Q (some (.int 1)) (N, am_ts T, I14, L15, am_rs r))) from ?_)
    by_cases hc : q13 = 0
    · rw [if_pos hc] at hw ⊢
      exact ⟨trivial, hK _ _ _ hw⟩
    · rw [if_neg hc] at hw ⊢
      exact ⟨trivial, hK _ _ _ hw⟩
/-- KeyKeepersModel.asks(III)I -/
def w_233 (x0 : Int32) (x1 : Int32) (x2 : Int32) (I : am_I) (L : am_J) (K : Int32 → am_I → am_J → Prop) : Prop :=
  if (f_192 x0 (am_u I 66 0 0)) = 0 then
    K (-1) (am_u I 66 0 0) L
  else
    if (f_182 (Int32.toInt64 x1) 0 6) = 0 then
      K (-1) (am_u I 66 0 0) L
    else
      if (4 : Int32) ≤ x1 then
        wb_233_42 x0 x1 x2 (Int32.toInt64 x2) 0 7 (am_u I 66 0 0) L K
      else
        wb_233_42 x0 x1 x2 (Int32.toInt64 x2) 0 5 (am_u I 66 0 0) L K
set_option maxHeartbeats 6000000 in
set_option maxRecDepth 100000 in
theorem s_233 {S : am_S} {d : Nat} {N : Nat} {T : Nat → Nat × Nat} {I : am_I} {L : am_J} {r : Nat → Nat → Option Nat} {Q : am_Q} {x0 : Int32} {x1 : Int32} {x2 : Int32} {K : Int32 → am_I → am_J → Prop} (hw : w_233 x0 x1 x2 I L K) (hK : ∀ (q : Int32) (I1 : am_I) (L1 : am_J), K q I1 L1 → Q (some (.int q)) (N, am_ts T, I1, L1, am_rs r)) : am_E S 233 (d + 7) 0 0 0 [.ref 66, .int x0, .int x1, .int x2] [] (N, am_ts T, I, L, am_rs r) Q := by
  unfold w_233 at hw
  try dsimp only at hw
  refine am_E.run [7] 2000 (show (am_E S 233 (d + 7) 0 0 7 [.ref 66, .int x0, .int x1, .int x2] [.int x0, .ref 66] (N, am_ts T, (am_u I 66 0 0), L, am_rs r) Q) from ?_)
  refine am_E.go ⟨fun v h9 => v = some (.int (f_192 x0 (am_u I 66 0 0))) ∧ h9 = (N, am_ts T, (am_u I 66 0 0), L, am_rs r), s_192 ⟨rfl, rfl⟩, ?_⟩
  intro v h9 hv
  obtain ⟨rfl, rfl⟩ := hv
  refine am_E.run [19] 2000 (show (if (f_192 x0 (am_u I 66 0 0)) = 0 then (True ∧ Q (some (.int (-1))) (N, am_ts T, (am_u I 66 0 0), L, am_rs r)) else (am_E S 233 (d + 7) 0 0 19 [.ref 66, .int x0, .int x1, .int x2] [.long 6, .long 0, .long (Int32.toInt64 x1)] (N, am_ts T, (am_u I 66 0 0), L, am_rs r) Q)) from ?_)
  by_cases hc : (f_192 x0 (am_u I 66 0 0)) = 0
  · rw [if_pos hc] at hw ⊢
    exact ⟨trivial, hK _ _ _ hw⟩
  · rw [if_neg hc] at hw ⊢
    refine am_E.go ⟨fun v h9 => v = some (.int (f_182 (Int32.toInt64 x1) 0 6)) ∧ h9 = (N, am_ts T, (am_u I 66 0 0), L, am_rs r), s_182 ⟨rfl, rfl⟩, ?_⟩
    intro v h9 hv
    obtain ⟨rfl, rfl⟩ := hv
    refine am_E.run [42] 2000 (show (if (f_182 (Int32.toInt64 x1) 0 6) = 0 then (True ∧ Q (some (.int (-1))) (N, am_ts T, (am_u I 66 0 0), L, am_rs r)) else (if (4 : Int32) ≤ x1 then (am_E S 233 (d + 7) 0 0 42 [.ref 66, .int x0, .int x1, .int x2] [.long 7, .long 0, .long (Int32.toInt64 x2)] (N, am_ts T, (am_u I 66 0 0), L, am_rs r) Q) else (am_E S 233 (d + 7) 0 0 42 [.ref 66, .int x0, .int x1, .int x2] [.long 5, .long 0, .long (Int32.toInt64 x2)] (N, am_ts T, (am_u I 66 0 0), L, am_rs r) Q))) from ?_)
    by_cases hc : (f_182 (Int32.toInt64 x1) 0 6) = 0
    · rw [if_pos hc] at hw ⊢
      exact ⟨trivial, hK _ _ _ hw⟩
    · rw [if_neg hc] at hw ⊢
      by_cases hc : (4 : Int32) ≤ x1
      · rw [if_pos hc] at hw ⊢
        exact sb_233_42 hw hK
      · rw [if_neg hc] at hw ⊢
        exact sb_233_42 hw hK
def lw_272_25 : Nat → Int32 → am_I → am_J → (Int32 → am_I → Prop) → Prop
  | 0, _, _, _, _ => False
  | n + 1, v1, I, L, E0 =>
    if v1 < 0 then
      E0 v1 I
    else
      w_274 v1 I (fun I3 =>
        ¬ (v1 < 0 ∨ 7 ≤ Int32.toNatClampNeg v1) ∧
        ¬ (v1 < 0 ∨ 7 ≤ Int32.toNatClampNeg v1) ∧
        ¬ (v1 < 0 ∨ 7 ≤ Int32.toNatClampNeg v1) ∧
        if ((am_u I3 89 (Int32.toNatClampNeg v1) ((I3 89 (Int32.toNatClampNeg v1)) + 1)) 89 (Int32.toNatClampNeg v1)) < (I3 68 1) then
          ¬ (v1 < 0 ∨ 7 ≤ Int32.toNatClampNeg v1) ∧
          ¬ (((am_u I3 89 (Int32.toNatClampNeg v1) ((I3 89 (Int32.toNatClampNeg v1)) + 1)) 89 (Int32.toNatClampNeg v1)) < 0 ∨ 8 ≤ Int32.toNatClampNeg ((am_u I3 89 (Int32.toNatClampNeg v1) ((I3 89 (Int32.toNatClampNeg v1)) + 1)) 89 (Int32.toNatClampNeg v1))) ∧
          w_237 1 (am_u I3 89 (Int32.toNatClampNeg v1) ((I3 89 (Int32.toNatClampNeg v1)) + 1)) (fun q4 =>
            if q4 ≤ (I3 91 (Int32.toNatClampNeg ((am_u I3 89 (Int32.toNatClampNeg v1) ((I3 89 (Int32.toNatClampNeg v1)) + 1)) 89 (Int32.toNatClampNeg v1)))) then
              lw_272_25 n v1 (am_u I3 89 (Int32.toNatClampNeg v1) ((I3 89 (Int32.toNatClampNeg v1)) + 1)) L E0
            else
              w_275 v1 (am_u I3 89 (Int32.toNatClampNeg v1) ((I3 89 (Int32.toNatClampNeg v1)) + 1)) (fun q5 =>
                if q5 = (-1) then
                  lw_272_25 n v1 (am_u I3 89 (Int32.toNatClampNeg v1) ((I3 89 (Int32.toNatClampNeg v1)) + 1)) L E0
                else
                  ¬ (v1 < 0 ∨ 7 ≤ Int32.toNatClampNeg v1) ∧
                  ¬ (((am_u I3 89 (Int32.toNatClampNeg v1) ((I3 89 (Int32.toNatClampNeg v1)) + 1)) 89 (Int32.toNatClampNeg v1)) < 0 ∨ 8 ≤ Int32.toNatClampNeg ((am_u I3 89 (Int32.toNatClampNeg v1) ((I3 89 (Int32.toNatClampNeg v1)) + 1)) 89 (Int32.toNatClampNeg v1))) ∧
                  ¬ (((am_u I3 89 (Int32.toNatClampNeg v1) ((I3 89 (Int32.toNatClampNeg v1)) + 1)) 89 (Int32.toNatClampNeg v1)) < 0 ∨ 8 ≤ Int32.toNatClampNeg ((am_u I3 89 (Int32.toNatClampNeg v1) ((I3 89 (Int32.toNatClampNeg v1)) + 1)) 89 (Int32.toNatClampNeg v1))) ∧
                  ¬ (v1 < 0 ∨ 7 ≤ Int32.toNatClampNeg v1) ∧
                  if v1 = 5 then
                    w_276 (am_u (am_u (am_u I3 89 (Int32.toNatClampNeg v1) ((I3 89 (Int32.toNatClampNeg v1)) + 1)) 91 (Int32.toNatClampNeg ((am_u I3 89 (Int32.toNatClampNeg v1) ((I3 89 (Int32.toNatClampNeg v1)) + 1)) 89 (Int32.toNatClampNeg v1))) ((I3 91 (Int32.toNatClampNeg ((am_u I3 89 (Int32.toNatClampNeg v1) ((I3 89 (Int32.toNatClampNeg v1)) + 1)) 89 (Int32.toNatClampNeg v1)))) + 1)) 92 (Int32.toNatClampNeg v1) (vp_nar .boolean 1)) (fun I6 =>
                      lw_272_25 n v1 I6 L E0)
                  else
                    ¬ ((v1 + 1) < 0 ∨ 7 ≤ Int32.toNatClampNeg (v1 + 1)) ∧
                    ¬ ((v1 + 1) < 0 ∨ 7 ≤ Int32.toNatClampNeg (v1 + 1)) ∧
                    lw_272_25 n (v1 + 1) (am_u (am_u (am_u (am_u (am_u I3 89 (Int32.toNatClampNeg v1) ((I3 89 (Int32.toNatClampNeg v1)) + 1)) 91 (Int32.toNatClampNeg ((am_u I3 89 (Int32.toNatClampNeg v1) ((I3 89 (Int32.toNatClampNeg v1)) + 1)) 89 (Int32.toNatClampNeg v1))) ((I3 91 (Int32.toNatClampNeg ((am_u I3 89 (Int32.toNatClampNeg v1) ((I3 89 (Int32.toNatClampNeg v1)) + 1)) 89 (Int32.toNatClampNeg v1)))) + 1)) 92 (Int32.toNatClampNeg v1) (vp_nar .boolean 1)) 89 (Int32.toNatClampNeg (v1 + 1)) (-1)) 92 (Int32.toNatClampNeg (v1 + 1)) (vp_nar .boolean 0)) L E0))
        else
          lw_272_25 n (v1 + (-1)) (am_u I3 89 (Int32.toNatClampNeg v1) ((I3 89 (Int32.toNatClampNeg v1)) + 1)) L E0)
set_option maxRecDepth 100000 in
theorem sl_272_25 {S : am_S} {d : Nat} {Q : am_Q} {N : Nat} {T : Nat → Nat × Nat} {L : am_J} {r : Nat → Nat → Option Nat} {E0 : Int32 → am_I → Prop} : ∀ (n : Nat) {v1 : Int32} {I : am_I}, lw_272_25 n v1 I L E0 → (∀ (o1 : Int32) (I1 : am_I), E0 o1 I1 → am_E S 272 (d + 7) 0 0 147 [.ref 66, .int o1] [] (N, am_ts T, I1, L, am_rs r) Q) → am_E S 272 (d + 7) 0 0 25 [.ref 66, .int v1] [] (N, am_ts T, I, L, am_rs r) Q
  | 0, _, _, hw, _ => hw.elim
  | n + 1, v1, I, hw, hE0 => by
    have ih := @sl_272_25 S d Q N T L r E0 n
    unfold lw_272_25 at hw
    try dsimp only at hw
    refine am_E.run [31, 147] 2000 (show (if v1 < 0 then (am_E S 272 (d + 7) 0 0 147 [.ref 66, .int v1] [] (N, am_ts T, I, L, am_rs r) Q) else (am_E S 272 (d + 7) 0 0 31 [.ref 66, .int v1] [.int v1, .ref 66] (N, am_ts T, I, L, am_rs r) Q)) from ?_)
    by_cases hc : v1 < 0
    · rw [if_pos hc] at hw ⊢
      exact hE0 _ _ hw
    · rw [if_neg hc] at hw ⊢
      refine am_E.go ⟨am_kv_I N T L r _, s_274 hw (fun I3 hk => ⟨I3, rfl, rfl, hk⟩), ?_⟩
      intro v h9 hv
      obtain ⟨I3, rfl, rfl, hw⟩ := hv
      try dsimp only at hw
      refine am_E.run [25, 78] 2000 (show (if v1 < 0 ∨ 7 ≤ Int32.toNatClampNeg v1 then False else (if v1 < 0 ∨ 7 ≤ Int32.toNatClampNeg v1 then False else (if v1 < 0 ∨ 7 ≤ Int32.toNatClampNeg v1 then False else (if ((am_u I3 89 (Int32.toNatClampNeg v1) ((I3 89 (Int32.toNatClampNeg v1)) + 1)) 89 (Int32.toNatClampNeg v1)) < (I3 68 1) then (if v1 < 0 ∨ 7 ≤ Int32.toNatClampNeg v1 then False else (if ((am_u I3 89 (Int32.toNatClampNeg v1) ((I3 89 (Int32.toNatClampNeg v1)) + 1)) 89 (Int32.toNatClampNeg v1)) < 0 ∨ 8 ≤ Int32.toNatClampNeg ((am_u I3 89 (Int32.toNatClampNeg v1) ((I3 89 (Int32.toNatClampNeg v1)) + 1)) 89 (Int32.toNatClampNeg v1)) then False else (am_E S 272 (d + 7) 0 0 78 [.ref 66, .int v1] [.int 1, .ref 66, .int (I3 91 (Int32.toNatClampNeg ((am_u I3 89 (Int32.toNatClampNeg v1) ((I3 89 (Int32.toNatClampNeg v1)) + 1)) 89 (Int32.toNatClampNeg v1))))] (N, am_ts T, (am_u I3 89 (Int32.toNatClampNeg v1) ((I3 89 (Int32.toNatClampNeg v1)) + 1)), L, am_rs r) Q))) else (am_E S 272 (d + 7) 0 0 25 [.ref 66, .int (v1 + (-1))] [] (N, am_ts T, (am_u I3 89 (Int32.toNatClampNeg v1) ((I3 89 (Int32.toNatClampNeg v1)) + 1)), L, am_rs r) Q))))) from ?_)
      refine am_ifn hw.1 ?_
      replace hw := hw.2
      refine am_ifn hw.1 ?_
      replace hw := hw.2
      refine am_ifn hw.1 ?_
      replace hw := hw.2
      by_cases hc : ((am_u I3 89 (Int32.toNatClampNeg v1) ((I3 89 (Int32.toNatClampNeg v1)) + 1)) 89 (Int32.toNatClampNeg v1)) < (I3 68 1)
      · rw [if_pos hc] at hw ⊢
        refine am_ifn hw.1 ?_
        replace hw := hw.2
        refine am_ifn hw.1 ?_
        replace hw := hw.2
        refine am_E.go ⟨am_ki_ N T (am_u I3 89 (Int32.toNatClampNeg v1) ((I3 89 (Int32.toNatClampNeg v1)) + 1)) L r _, s_237 hw (fun q4 hk => ⟨q4, rfl, rfl, hk⟩), ?_⟩
        intro v h9 hv
        obtain ⟨q4, rfl, rfl, hw⟩ := hv
        try dsimp only at hw
        refine am_E.run [25, 86] 2000 (show (if q4 ≤ (I3 91 (Int32.toNatClampNeg ((am_u I3 89 (Int32.toNatClampNeg v1) ((I3 89 (Int32.toNatClampNeg v1)) + 1)) 89 (Int32.toNatClampNeg v1)))) then (am_E S 272 (d + 7) 0 0 25 [.ref 66, .int v1] [] (N, am_ts T, (am_u I3 89 (Int32.toNatClampNeg v1) ((I3 89 (Int32.toNatClampNeg v1)) + 1)), L, am_rs r) Q) else (am_E S 272 (d + 7) 0 0 86 [.ref 66, .int v1] [.int v1, .ref 66] (N, am_ts T, (am_u I3 89 (Int32.toNatClampNeg v1) ((I3 89 (Int32.toNatClampNeg v1)) + 1)), L, am_rs r) Q)) from ?_)
        by_cases hc : q4 ≤ (I3 91 (Int32.toNatClampNeg ((am_u I3 89 (Int32.toNatClampNeg v1) ((I3 89 (Int32.toNatClampNeg v1)) + 1)) 89 (Int32.toNatClampNeg v1))))
        · rw [if_pos hc] at hw ⊢
          exact ih hw hE0
        · rw [if_neg hc] at hw ⊢
          refine am_E.go ⟨am_ki_ N T (am_u I3 89 (Int32.toNatClampNeg v1) ((I3 89 (Int32.toNatClampNeg v1)) + 1)) L r _, s_275 hw (fun q5 hk => ⟨q5, rfl, rfl, hk⟩), ?_⟩
          intro v h9 hv
          obtain ⟨q5, rfl, rfl, hw⟩ := hv
          try dsimp only at hw
          refine am_E.run [25, 121] 2000 (show (if q5 = (-1) then (am_E S 272 (d + 7) 0 0 25 [.ref 66, .int v1] [] (N, am_ts T, (am_u I3 89 (Int32.toNatClampNeg v1) ((I3 89 (Int32.toNatClampNeg v1)) + 1)), L, am_rs r) Q) else (if v1 < 0 ∨ 7 ≤ Int32.toNatClampNeg v1 then False else (if ((am_u I3 89 (Int32.toNatClampNeg v1) ((I3 89 (Int32.toNatClampNeg v1)) + 1)) 89 (Int32.toNatClampNeg v1)) < 0 ∨ 8 ≤ Int32.toNatClampNeg ((am_u I3 89 (Int32.toNatClampNeg v1) ((I3 89 (Int32.toNatClampNeg v1)) + 1)) 89 (Int32.toNatClampNeg v1)) then False else (if ((am_u I3 89 (Int32.toNatClampNeg v1) ((I3 89 (Int32.toNatClampNeg v1)) + 1)) 89 (Int32.toNatClampNeg v1)) < 0 ∨ 8 ≤ Int32.toNatClampNeg ((am_u I3 89 (Int32.toNatClampNeg v1) ((I3 89 (Int32.toNatClampNeg v1)) + 1)) 89 (Int32.toNatClampNeg v1)) then False else (if v1 < 0 ∨ 7 ≤ Int32.toNatClampNeg v1 then False else (if v1 = 5 then (am_E S 272 (d + 7) 0 0 121 [.ref 66, .int v1] [.ref 66] (N, am_ts T, (am_u (am_u (am_u I3 89 (Int32.toNatClampNeg v1) ((I3 89 (Int32.toNatClampNeg v1)) + 1)) 91 (Int32.toNatClampNeg ((am_u I3 89 (Int32.toNatClampNeg v1) ((I3 89 (Int32.toNatClampNeg v1)) + 1)) 89 (Int32.toNatClampNeg v1))) ((I3 91 (Int32.toNatClampNeg ((am_u I3 89 (Int32.toNatClampNeg v1) ((I3 89 (Int32.toNatClampNeg v1)) + 1)) 89 (Int32.toNatClampNeg v1)))) + 1)) 92 (Int32.toNatClampNeg v1) (vp_nar .boolean 1)), L, am_rs r) Q) else (if (v1 + 1) < 0 ∨ 7 ≤ Int32.toNatClampNeg (v1 + 1) then False else (if (v1 + 1) < 0 ∨ 7 ≤ Int32.toNatClampNeg (v1 + 1) then False else (am_E S 272 (d + 7) 0 0 25 [.ref 66, .int (v1 + 1)] [] (N, am_ts T, (am_u (am_u (am_u (am_u (am_u I3 89 (Int32.toNatClampNeg v1) ((I3 89 (Int32.toNatClampNeg v1)) + 1)) 91 (Int32.toNatClampNeg ((am_u I3 89 (Int32.toNatClampNeg v1) ((I3 89 (Int32.toNatClampNeg v1)) + 1)) 89 (Int32.toNatClampNeg v1))) ((I3 91 (Int32.toNatClampNeg ((am_u I3 89 (Int32.toNatClampNeg v1) ((I3 89 (Int32.toNatClampNeg v1)) + 1)) 89 (Int32.toNatClampNeg v1)))) + 1)) 92 (Int32.toNatClampNeg v1) (vp_nar .boolean 1)) 89 (Int32.toNatClampNeg (v1 + 1)) (-1)) 92 (Int32.toNatClampNeg (v1 + 1)) (vp_nar .boolean 0)), L, am_rs r) Q))))))))) from ?_)
          by_cases hc : q5 = (-1)
          · rw [if_pos hc] at hw ⊢
            exact ih hw hE0
          · rw [if_neg hc] at hw ⊢
            refine am_ifn hw.1 ?_
            replace hw := hw.2
            refine am_ifn hw.1 ?_
            replace hw := hw.2
            refine am_ifn hw.1 ?_
            replace hw := hw.2
            refine am_ifn hw.1 ?_
            replace hw := hw.2
            by_cases hc : v1 = 5
            · rw [if_pos hc] at hw ⊢
              refine am_E.go ⟨am_kv_I N T L r _, s_276 hw (fun I6 hk => ⟨I6, rfl, rfl, hk⟩), ?_⟩
              intro v h9 hv
              obtain ⟨I6, rfl, rfl, hw⟩ := hv
              try dsimp only at hw
              refine am_E.run [25] 2000 (show (am_E S 272 (d + 7) 0 0 25 [.ref 66, .int v1] [] (N, am_ts T, I6, L, am_rs r) Q) from ?_)
              exact ih hw hE0
            · rw [if_neg hc] at hw ⊢
              refine am_ifn hw.1 ?_
              replace hw := hw.2
              refine am_ifn hw.1 ?_
              replace hw := hw.2
              exact ih hw hE0
      · rw [if_neg hc] at hw ⊢
        exact ih hw hE0
/-- KeyKeepersModel.findRotas()V -/
def w_272 (I : am_I) (L : am_J) (K : am_I → am_J → Prop) : Prop :=
  w_273 I L (fun I1 L2 =>
    ∃ n25, lw_272_25 n25 0 (am_u (am_u (am_u I1 66 46 0) 66 47 100000000) 89 0 (-1)) L2 (fun o7 I8 =>
      K I8 L2))
set_option maxRecDepth 100000 in
theorem s_272 {S : am_S} {d : Nat} {N : Nat} {T : Nat → Nat × Nat} {I : am_I} {L : am_J} {r : Nat → Nat → Option Nat} {Q : am_Q} {K : am_I → am_J → Prop} (hw : w_272 I L K) (hK : ∀ (I1 : am_I) (L1 : am_J), K I1 L1 → Q (none) (N, am_ts T, I1, L1, am_rs r)) : am_E S 272 (d + 7) 0 0 0 [.ref 66, am_jk] [] (N, am_ts T, I, L, am_rs r) Q := by
  unfold w_272 at hw
  try dsimp only at hw
  refine am_E.run [1] 2000 (show (am_E S 272 (d + 7) 0 0 1 [.ref 66, am_jk] [.ref 66] (N, am_ts T, I, L, am_rs r) Q) from ?_)
  refine am_E.go ⟨am_kv_IL N T r _, s_273 hw (fun I1 L2 hk => ⟨I1, L2, rfl, rfl, hk⟩), ?_⟩
  intro v h9 hv
  obtain ⟨I1, L2, rfl, rfl, hw⟩ := hv
  try dsimp only at hw
  refine am_E.run [25] 2000 (show (am_E S 272 (d + 7) 0 0 25 [.ref 66, .int 0] [] (N, am_ts T, (am_u (am_u (am_u I1 66 46 0) 66 47 100000000) 89 0 (-1)), L2, am_rs r) Q) from ?_)
  obtain ⟨n25, hw⟩ := hw
  refine sl_272_25 n25 hw (fun o7 I8 hw => ?_)
  · try dsimp only at hw
    refine am_E.run [] 2000 (show (True ∧ Q (none) (N, am_ts T, I8, L2, am_rs r)) from ?_)
    exact ⟨trivial, hK _ _ hw⟩
def lw_287_19 : Nat → Int32 → Int32 → Int32 → am_I → am_J → (Int32 → Int32 → am_I → am_J → Prop) → Prop
  | 0, _, _, _, _, _, _ => False
  | n + 1, v1, v2, v3, I, L, E0 =>
    if (I 68 1) ≤ v3 then
      E0 v2 v3 I L
    else
      w_288 v1 v3 I L (fun q1 I2 L3 =>
        w_288 (I2 68 4) v3 I2 L3 (fun q4 I5 L6 =>
          if q4 ≤ q1 then
            lw_287_19 n v1 (v2 ||| 0) (v3 + 1) I5 L6 E0
          else
            lw_287_19 n v1 (v2 ||| (1 <<< (v3 &&& 31))) (v3 + 1) I5 L6 E0))
set_option maxRecDepth 100000 in
theorem sl_287_19 {S : am_S} {d : Nat} {Q : am_Q} {N : Nat} {T : Nat → Nat × Nat} {r : Nat → Nat → Option Nat} {E0 : Int32 → Int32 → am_I → am_J → Prop} : ∀ (n : Nat) {v1 : Int32} {v2 : Int32} {v3 : Int32} {I : am_I} {L : am_J}, lw_287_19 n v1 v2 v3 I L E0 → (∀ (o2 : Int32) (o3 : Int32) (I1 : am_I) (L1 : am_J), E0 o2 o3 I1 L1 → am_E S 287 (d + 7) 0 0 65 [.ref 66, .int v1, .int o2, .int o3] [] (N, am_ts T, I1, L1, am_rs r) Q) → am_E S 287 (d + 7) 0 0 19 [.ref 66, .int v1, .int v2, .int v3] [] (N, am_ts T, I, L, am_rs r) Q
  | 0, _, _, _, _, _, hw, _ => hw.elim
  | n + 1, v1, v2, v3, I, L, hw, hE0 => by
    have ih := @sl_287_19 S d Q N T r E0 n
    unfold lw_287_19 at hw
    try dsimp only at hw
    refine am_E.run [33, 65] 2000 (show (if (I 68 1) ≤ v3 then (am_E S 287 (d + 7) 0 0 65 [.ref 66, .int v1, .int v2, .int v3] [] (N, am_ts T, I, L, am_rs r) Q) else (am_E S 287 (d + 7) 0 0 33 [.ref 66, .int v1, .int v2, .int v3] [.int v3, .int v1, .ref 66, .int v2] (N, am_ts T, I, L, am_rs r) Q)) from ?_)
    by_cases hc : (I 68 1) ≤ v3
    · rw [if_pos hc] at hw ⊢
      exact hE0 _ _ _ _ hw
    · rw [if_neg hc] at hw ⊢
      refine am_E.go ⟨am_ki_IL N T r _, s_288 hw (fun q1 I2 L3 hk => ⟨q1, I2, L3, rfl, rfl, hk⟩), ?_⟩
      intro v h9 hv
      obtain ⟨q1, I2, L3, rfl, rfl, hw⟩ := hv
      try dsimp only at hw
      refine am_E.run [44] 2000 (show (am_E S 287 (d + 7) 0 0 44 [.ref 66, .int v1, .int v2, .int v3] [.int v3, .int (I2 68 4), .ref 66, .int q1, .int v2] (N, am_ts T, I2, L3, am_rs r) Q) from ?_)
      refine am_E.go ⟨am_ki_IL N T r _, s_288 hw (fun q4 I5 L6 hk => ⟨q4, I5, L6, rfl, rfl, hk⟩), ?_⟩
      intro v h9 hv
      obtain ⟨q4, I5, L6, rfl, rfl, hw⟩ := hv
      try dsimp only at hw
      refine am_E.run [19] 2000 (show (if q4 ≤ q1 then (am_E S 287 (d + 7) 0 0 19 [.ref 66, .int v1, .int (v2 ||| 0), .int (v3 + 1)] [] (N, am_ts T, I5, L6, am_rs r) Q) else (am_E S 287 (d + 7) 0 0 19 [.ref 66, .int v1, .int (v2 ||| (1 <<< (v3 &&& 31))), .int (v3 + 1)] [] (N, am_ts T, I5, L6, am_rs r) Q)) from ?_)
      by_cases hc : q4 ≤ q1
      · rw [if_pos hc] at hw ⊢
        exact ih hw hE0
      · rw [if_neg hc] at hw ⊢
        exact ih hw hE0
/-- KeyKeepersModel.voted(I)I -/
def w_287 (x0 : Int32) (I : am_I) (L : am_J) (K : Int32 → am_I → am_J → Prop) : Prop :=
  if (f_232 x0 (am_u I 66 0 0)) = 0 then
    K (-1) (am_u I 66 0 0) L
  else
    ∃ n19, lw_287_19 n19 x0 0 0 (am_u I 66 0 0) L (fun o7 o8 I9 L10 =>
      K o7 I9 L10)
set_option maxRecDepth 100000 in
theorem s_287 {S : am_S} {d : Nat} {N : Nat} {T : Nat → Nat × Nat} {I : am_I} {L : am_J} {r : Nat → Nat → Option Nat} {Q : am_Q} {x0 : Int32} {K : Int32 → am_I → am_J → Prop} (hw : w_287 x0 I L K) (hK : ∀ (q : Int32) (I1 : am_I) (L1 : am_J), K q I1 L1 → Q (some (.int q)) (N, am_ts T, I1, L1, am_rs r)) : am_E S 287 (d + 7) 0 0 0 [.ref 66, .int x0, am_jk, am_jk] [] (N, am_ts T, I, L, am_rs r) Q := by
  unfold w_287 at hw
  try dsimp only at hw
  refine am_E.run [7] 2000 (show (am_E S 287 (d + 7) 0 0 7 [.ref 66, .int x0, am_jk, am_jk] [.int x0, .ref 66] (N, am_ts T, (am_u I 66 0 0), L, am_rs r) Q) from ?_)
  refine am_E.go ⟨fun v h9 => v = some (.int (f_232 x0 (am_u I 66 0 0))) ∧ h9 = (N, am_ts T, (am_u I 66 0 0), L, am_rs r), s_232 ⟨rfl, rfl⟩, ?_⟩
  intro v h9 hv
  obtain ⟨rfl, rfl⟩ := hv
  refine am_E.run [19] 2000 (show (if (f_232 x0 (am_u I 66 0 0)) = 0 then (True ∧ Q (some (.int (-1))) (N, am_ts T, (am_u I 66 0 0), L, am_rs r)) else (am_E S 287 (d + 7) 0 0 19 [.ref 66, .int x0, .int 0, .int 0] [] (N, am_ts T, (am_u I 66 0 0), L, am_rs r) Q)) from ?_)
  by_cases hc : (f_232 x0 (am_u I 66 0 0)) = 0
  · rw [if_pos hc] at hw ⊢
    exact ⟨trivial, hK _ _ _ hw⟩
  · rw [if_neg hc] at hw ⊢
    obtain ⟨n19, hw⟩ := hw
    refine sl_287_19 n19 hw (fun o7 o8 I9 L10 hw => ?_)
    · try dsimp only at hw
      refine am_E.run [] 2000 (show (True ∧ Q (some (.int o7)) (N, am_ts T, I9, L10, am_rs r)) from ?_)
      exact ⟨trivial, hK _ _ _ hw⟩
def lw_292_109 : Nat → Int32 → Int32 → Int32 → am_I → am_J → (Int32 → am_I → Prop) → Prop
  | 0, _, _, _, _, _, _ => False
  | n + 1, v1, v2, v3, I, L, E0 =>
    if (10 : Int32) ≤ v3 then
      E0 v3 I
    else
      ¬ ((v2 + v3) < 0 ∨ 120 ≤ Int32.toNatClampNeg (v2 + v3)) ∧
      lw_292_109 n v1 v2 (v3 + 1) (am_u I 97 (Int32.toNatClampNeg (v2 + v3)) 0) L E0
set_option maxHeartbeats 6000000 in
set_option maxRecDepth 100000 in
theorem sl_292_109 {S : am_S} {d : Nat} {Q : am_Q} {N : Nat} {T : Nat → Nat × Nat} {L : am_J} {r : Nat → Nat → Option Nat} {E0 : Int32 → am_I → Prop} : ∀ (n : Nat) {v1 : Int32} {v2 : Int32} {v3 : Int32} {I : am_I}, lw_292_109 n v1 v2 v3 I L E0 → (∀ (o3 : Int32) (I1 : am_I), E0 o3 I1 → am_E S 292 (d + 9) 0 0 130 [.ref 66, .int v1, .int v2, .int o3] [] (N, am_ts T, I1, L, am_rs r) Q) → am_E S 292 (d + 9) 0 0 109 [.ref 66, .int v1, .int v2, .int v3] [] (N, am_ts T, I, L, am_rs r) Q
  | 0, _, _, _, _, hw, _ => hw.elim
  | n + 1, v1, v2, v3, I, hw, hE0 => by
    have ih := @sl_292_109 S d Q N T L r E0 n
    unfold lw_292_109 at hw
    try dsimp only at hw
    refine am_E.run [109, 130] 2000 (show (if (10 : Int32) ≤ v3 then (am_E S 292 (d + 9) 0 0 130 [.ref 66, .int v1, .int v2, .int v3] [] (N, am_ts T, I, L, am_rs r) Q) else (if (v2 + v3) < 0 ∨ 120 ≤ Int32.toNatClampNeg (v2 + v3) then False else (am_E S 292 (d + 9) 0 0 109 [.ref 66, .int v1, .int v2, .int (v3 + 1)] [] (N, am_ts T, (am_u I 97 (Int32.toNatClampNeg (v2 + v3)) 0), L, am_rs r) Q))) from ?_)
    by_cases hc : (10 : Int32) ≤ v3
    · rw [if_pos hc] at hw ⊢
      exact hE0 _ _ hw
    · rw [if_neg hc] at hw ⊢
      refine am_ifn hw.1 ?_
      replace hw := hw.2
      exact ih hw hE0
def wb_292_236 (v2 : Int32) (I : am_I) (L : am_J) (K : am_I → am_J → Prop) : Prop :=
  ¬ ((v2 + 7) < 0 ∨ 120 ≤ Int32.toNatClampNeg (v2 + 7)) ∧
  if (I 66 19) = 0 then
    if (f_211 294 (am_u I 97 (Int32.toNatClampNeg (v2 + 7)) (I 66 23)) L) = 0 then
      ¬ ((v2 + 8) < 0 ∨ 120 ≤ Int32.toNatClampNeg (v2 + 8)) ∧
      K (am_u (am_u I 97 (Int32.toNatClampNeg (v2 + 7)) (I 66 23)) 97 (Int32.toNatClampNeg (v2 + 8)) (I 66 23)) L
    else
      w_207 (am_u I 97 (Int32.toNatClampNeg (v2 + 7)) (I 66 23)) L (fun I9 L10 =>
        w_213 1 I9 L10 (fun I11 L12 =>
          ¬ ((v2 + 8) < 0 ∨ 120 ≤ Int32.toNatClampNeg (v2 + 8)) ∧
          K (am_u I11 97 (Int32.toNatClampNeg (v2 + 8)) (I11 66 23)) L12))
  else
    ¬ ((v2 + 8) < 0 ∨ 120 ≤ Int32.toNatClampNeg (v2 + 8)) ∧
    K (am_u (am_u I 97 (Int32.toNatClampNeg (v2 + 7)) (I 66 23)) 97 (Int32.toNatClampNeg (v2 + 8)) (I 66 23)) L
set_option maxHeartbeats 6000000 in
set_option maxRecDepth 100000 in
theorem sb_292_236 {S : am_S} {d : Nat} {N : Nat} {T : Nat → Nat × Nat} {I : am_I} {L : am_J} {r : Nat → Nat → Option Nat} {Q : am_Q} {v2 : Int32} {K : am_I → am_J → Prop} (hw : wb_292_236 v2 I L K) (hK : ∀ (I1 : am_I) (L1 : am_J), K I1 L1 → Q (none) (N, am_ts T, I1, L1, am_rs r)) : am_E S 292 (d + 9) 0 0 236 [.ref 66, am_jk, .int v2, am_jk] [] (N, am_ts T, I, L, am_rs r) Q := by
  unfold wb_292_236 at hw
  try dsimp only at hw
  refine am_E.run [260] 2000 (show (if (v2 + 7) < 0 ∨ 120 ≤ Int32.toNatClampNeg (v2 + 7) then False else (if (I 66 19) = 0 then (am_E S 292 (d + 9) 0 0 260 [.ref 66, am_jk, .int v2, am_jk] [.long 294, .ref 66] (N, am_ts T, (am_u I 97 (Int32.toNatClampNeg (v2 + 7)) (I 66 23)), L, am_rs r) Q) else (if (v2 + 8) < 0 ∨ 120 ≤ Int32.toNatClampNeg (v2 + 8) then False else (True ∧ Q (none) (N, am_ts T, (am_u (am_u I 97 (Int32.toNatClampNeg (v2 + 7)) (I 66 23)) 97 (Int32.toNatClampNeg (v2 + 8)) (I 66 23)), L, am_rs r))))) from ?_)
  refine am_ifn hw.1 ?_
  replace hw := hw.2
  by_cases hc : (I 66 19) = 0
  · rw [if_pos hc] at hw ⊢
    refine am_E.go ⟨fun v h9 => v = some (.int (f_211 294 (am_u I 97 (Int32.toNatClampNeg (v2 + 7)) (I 66 23)) L)) ∧ h9 = (N, am_ts T, (am_u I 97 (Int32.toNatClampNeg (v2 + 7)) (I 66 23)), L, am_rs r), s_211 ⟨rfl, rfl⟩, ?_⟩
    intro v h9 hv
    obtain ⟨rfl, rfl⟩ := hv
    refine am_E.run [267] 2000 (show (if (f_211 294 (am_u I 97 (Int32.toNatClampNeg (v2 + 7)) (I 66 23)) L) = 0 then (if (v2 + 8) < 0 ∨ 120 ≤ Int32.toNatClampNeg (v2 + 8) then False else (True ∧ Q (none) (N, am_ts T, (am_u (am_u I 97 (Int32.toNatClampNeg (v2 + 7)) (I 66 23)) 97 (Int32.toNatClampNeg (v2 + 8)) (I 66 23)), L, am_rs r))) else (am_E S 292 (d + 9) 0 0 267 [.ref 66, am_jk, .int v2, am_jk] [.ref 66] (N, am_ts T, (am_u I 97 (Int32.toNatClampNeg (v2 + 7)) (I 66 23)), L, am_rs r) Q)) from ?_)
    by_cases hc : (f_211 294 (am_u I 97 (Int32.toNatClampNeg (v2 + 7)) (I 66 23)) L) = 0
    · rw [if_pos hc] at hw ⊢
      refine am_ifn hw.1 ?_
      replace hw := hw.2
      exact ⟨trivial, hK _ _ hw⟩
    · rw [if_neg hc] at hw ⊢
      refine am_E.go ⟨am_kv_IL N T r _, s_207 hw (fun I9 L10 hk => ⟨I9, L10, rfl, rfl, hk⟩), ?_⟩
      intro v h9 hv
      obtain ⟨I9, L10, rfl, rfl, hw⟩ := hv
      try dsimp only at hw
      refine am_E.run [272] 2000 (show (am_E S 292 (d + 9) 0 0 272 [.ref 66, am_jk, .int v2, am_jk] [.int 1, .ref 66] (N, am_ts T, I9, L10, am_rs r) Q) from ?_)
      refine am_E.go ⟨am_kv_IL N T r _, s_213 hw (fun I11 L12 hk => ⟨I11, L12, rfl, rfl, hk⟩), ?_⟩
      intro v h9 hv
      obtain ⟨I11, L12, rfl, rfl, hw⟩ := hv
      try dsimp only at hw
      refine am_E.run [] 2000 (show (if (v2 + 8) < 0 ∨ 120 ≤ Int32.toNatClampNeg (v2 + 8) then False else (True ∧ Q (none) (N, am_ts T, (am_u I11 97 (Int32.toNatClampNeg (v2 + 8)) (I11 66 23)), L12, am_rs r))) from ?_)
      refine am_ifn hw.1 ?_
      replace hw := hw.2
      exact ⟨trivial, hK _ _ hw⟩
  · rw [if_neg hc] at hw ⊢
    refine am_ifn hw.1 ?_
    replace hw := hw.2
    exact ⟨trivial, hK _ _ hw⟩
def wb_292_188 (v2 : Int32) (I : am_I) (L : am_J) (K : am_I → am_J → Prop) : Prop :=
  ¬ ((v2 + 9) < 0 ∨ 120 ≤ Int32.toNatClampNeg (v2 + 9)) ∧
  if (I 66 19) = 0 then
    if (f_211 21279923 (am_u I 97 (Int32.toNatClampNeg (v2 + 9)) 1) L) = 0 then
      wb_292_236 v2 (am_u I 97 (Int32.toNatClampNeg (v2 + 9)) 1) L K
    else
      w_207 (am_u I 97 (Int32.toNatClampNeg (v2 + 9)) 1) L (fun I13 L14 =>
        w_223 1 20 I13 L14 (fun q15 I16 L17 =>
          ¬ ((v2 + 9) < 0 ∨ 120 ≤ Int32.toNatClampNeg (v2 + 9)) ∧
          wb_292_236 v2 (am_u I16 97 (Int32.toNatClampNeg (v2 + 9)) q15) L17 K))
  else
    wb_292_236 v2 (am_u I 97 (Int32.toNatClampNeg (v2 + 9)) 1) L K
set_option maxHeartbeats 6000000 in
set_option maxRecDepth 100000 in
theorem sb_292_188 {S : am_S} {d : Nat} {N : Nat} {T : Nat → Nat × Nat} {I : am_I} {L : am_J} {r : Nat → Nat → Option Nat} {Q : am_Q} {v2 : Int32} {K : am_I → am_J → Prop} (hw : wb_292_188 v2 I L K) (hK : ∀ (I1 : am_I) (L1 : am_J), K I1 L1 → Q (none) (N, am_ts T, I1, L1, am_rs r)) : am_E S 292 (d + 9) 0 0 188 [.ref 66, am_jk, .int v2, am_jk] [] (N, am_ts T, I, L, am_rs r) Q := by
  unfold wb_292_188 at hw
  try dsimp only at hw
  refine am_E.run [209, 236] 2000 (show (if (v2 + 9) < 0 ∨ 120 ≤ Int32.toNatClampNeg (v2 + 9) then False else (if (I 66 19) = 0 then (am_E S 292 (d + 9) 0 0 209 [.ref 66, am_jk, .int v2, am_jk] [.long 21279923, .ref 66] (N, am_ts T, (am_u I 97 (Int32.toNatClampNeg (v2 + 9)) 1), L, am_rs r) Q) else (am_E S 292 (d + 9) 0 0 236 [.ref 66, am_jk, .int v2, am_jk] [] (N, am_ts T, (am_u I 97 (Int32.toNatClampNeg (v2 + 9)) 1), L, am_rs r) Q))) from ?_)
  refine am_ifn hw.1 ?_
  replace hw := hw.2
  by_cases hc : (I 66 19) = 0
  · rw [if_pos hc] at hw ⊢
    refine am_E.go ⟨fun v h9 => v = some (.int (f_211 21279923 (am_u I 97 (Int32.toNatClampNeg (v2 + 9)) 1) L)) ∧ h9 = (N, am_ts T, (am_u I 97 (Int32.toNatClampNeg (v2 + 9)) 1), L, am_rs r), s_211 ⟨rfl, rfl⟩, ?_⟩
    intro v h9 hv
    obtain ⟨rfl, rfl⟩ := hv
    refine am_E.run [216, 236] 2000 (show (if (f_211 21279923 (am_u I 97 (Int32.toNatClampNeg (v2 + 9)) 1) L) = 0 then (am_E S 292 (d + 9) 0 0 236 [.ref 66, am_jk, .int v2, am_jk] [] (N, am_ts T, (am_u I 97 (Int32.toNatClampNeg (v2 + 9)) 1), L, am_rs r) Q) else (am_E S 292 (d + 9) 0 0 216 [.ref 66, am_jk, .int v2, am_jk] [.ref 66] (N, am_ts T, (am_u I 97 (Int32.toNatClampNeg (v2 + 9)) 1), L, am_rs r) Q)) from ?_)
    by_cases hc : (f_211 21279923 (am_u I 97 (Int32.toNatClampNeg (v2 + 9)) 1) L) = 0
    · rw [if_pos hc] at hw ⊢
      exact sb_292_236 hw hK
    · rw [if_neg hc] at hw ⊢
      refine am_E.go ⟨am_kv_IL N T r _, s_207 hw (fun I13 L14 hk => ⟨I13, L14, rfl, rfl, hk⟩), ?_⟩
      intro v h9 hv
      obtain ⟨I13, L14, rfl, rfl, hw⟩ := hv
      try dsimp only at hw
      refine am_E.run [232] 2000 (show (am_E S 292 (d + 9) 0 0 232 [.ref 66, am_jk, .int v2, am_jk] [.long 20, .long 1, .ref 66, .int (v2 + 9), .ref 97] (N, am_ts T, I13, L14, am_rs r) Q) from ?_)
      refine am_E.go ⟨am_ki_IL N T r _, s_223 hw (fun q15 I16 L17 hk => ⟨q15, I16, L17, rfl, rfl, hk⟩), ?_⟩
      intro v h9 hv
      obtain ⟨q15, I16, L17, rfl, rfl, hw⟩ := hv
      try dsimp only at hw
      refine am_E.run [236] 2000 (show (if (v2 + 9) < 0 ∨ 120 ≤ Int32.toNatClampNeg (v2 + 9) then False else (am_E S 292 (d + 9) 0 0 236 [.ref 66, am_jk, .int v2, am_jk] [] (N, am_ts T, (am_u I16 97 (Int32.toNatClampNeg (v2 + 9)) q15), L17, am_rs r) Q)) from ?_)
      refine am_ifn hw.1 ?_
      replace hw := hw.2
      exact sb_292_236 hw hK
  · rw [if_neg hc] at hw ⊢
    exact sb_292_236 hw hK
def wb_292_170 (v1 : Int32) (v2 : Int32) (s1 : Int32) (s2 : Int64) (I : am_I) (L : am_J) (K : am_I → am_J → Prop) : Prop :=
  w_294 s1 s2 I L (fun I7 L8 =>
    if v1 = 1 then
      w_294 (v2 + 5) 655 I7 L8 (fun I18 L19 =>
        ¬ ((v2 + 9) < 0 ∨ 120 ≤ Int32.toNatClampNeg (v2 + 9)) ∧
        if (I18 66 19) = 0 then
          if (f_211 21279923 (am_u I18 97 (Int32.toNatClampNeg (v2 + 9)) 1) L19) = 0 then
            wb_292_236 v2 (am_u I18 97 (Int32.toNatClampNeg (v2 + 9)) 1) L19 K
          else
            w_207 (am_u I18 97 (Int32.toNatClampNeg (v2 + 9)) 1) L19 (fun I20 L21 =>
              w_223 1 20 I20 L21 (fun q22 I23 L24 =>
                ¬ ((v2 + 9) < 0 ∨ 120 ≤ Int32.toNatClampNeg (v2 + 9)) ∧
                wb_292_236 v2 (am_u I23 97 (Int32.toNatClampNeg (v2 + 9)) q22) L24 K))
        else
          wb_292_236 v2 (am_u I18 97 (Int32.toNatClampNeg (v2 + 9)) 1) L19 K)
    else
      wb_292_188 v2 I7 L8 K)
set_option maxHeartbeats 6000000 in
set_option maxRecDepth 100000 in
theorem sb_292_170 {S : am_S} {d : Nat} {N : Nat} {T : Nat → Nat × Nat} {I : am_I} {L : am_J} {r : Nat → Nat → Option Nat} {Q : am_Q} {v1 : Int32} {v2 : Int32} {s1 : Int32} {s2 : Int64} {K : am_I → am_J → Prop} (hw : wb_292_170 v1 v2 s1 s2 I L K) (hK : ∀ (I1 : am_I) (L1 : am_J), K I1 L1 → Q (none) (N, am_ts T, I1, L1, am_rs r)) : am_E S 292 (d + 9) 0 0 170 [.ref 66, .int v1, .int v2, am_jk] [.long s2, .int s1, .ref 66] (N, am_ts T, I, L, am_rs r) Q := by
  unfold wb_292_170 at hw
  try dsimp only at hw
  show (am_E S 292 (d + 9) 0 0 170 [.ref 66, .int v1, .int v2, am_jk] [.long s2, .int s1, .ref 66] (N, am_ts T, I, L, am_rs r) Q)
  refine am_E.go ⟨am_kv_IL N T r _, s_294 hw (fun I7 L8 hk => ⟨I7, L8, rfl, rfl, hk⟩), ?_⟩
  intro v h9 hv
  obtain ⟨I7, L8, rfl, rfl, hw⟩ := hv
  try dsimp only at hw
  refine am_E.run [185, 188] 2000 (show (if v1 = 1 then (am_E S 292 (d + 9) 0 0 185 [.ref 66, .int v1, .int v2, am_jk] [.long 655, .int (v2 + 5), .ref 66] (N, am_ts T, I7, L8, am_rs r) Q) else (am_E S 292 (d + 9) 0 0 188 [.ref 66, .int v1, .int v2, am_jk] [] (N, am_ts T, I7, L8, am_rs r) Q)) from ?_)
  by_cases hc : v1 = 1
  · rw [if_pos hc] at hw ⊢
    refine am_E.go ⟨am_kv_IL N T r _, s_294 hw (fun I18 L19 hk => ⟨I18, L19, rfl, rfl, hk⟩), ?_⟩
    intro v h9 hv
    obtain ⟨I18, L19, rfl, rfl, hw⟩ := hv
    try dsimp only at hw
    refine am_E.run [209, 236] 2000 (show (if (v2 + 9) < 0 ∨ 120 ≤ Int32.toNatClampNeg (v2 + 9) then False else (if (I18 66 19) = 0 then (am_E S 292 (d + 9) 0 0 209 [.ref 66, .int v1, .int v2, am_jk] [.long 21279923, .ref 66] (N, am_ts T, (am_u I18 97 (Int32.toNatClampNeg (v2 + 9)) 1), L19, am_rs r) Q) else (am_E S 292 (d + 9) 0 0 236 [.ref 66, .int v1, .int v2, am_jk] [] (N, am_ts T, (am_u I18 97 (Int32.toNatClampNeg (v2 + 9)) 1), L19, am_rs r) Q))) from ?_)
    refine am_ifn hw.1 ?_
    replace hw := hw.2
    by_cases hc : (I18 66 19) = 0
    · rw [if_pos hc] at hw ⊢
      refine am_E.go ⟨fun v h9 => v = some (.int (f_211 21279923 (am_u I18 97 (Int32.toNatClampNeg (v2 + 9)) 1) L19)) ∧ h9 = (N, am_ts T, (am_u I18 97 (Int32.toNatClampNeg (v2 + 9)) 1), L19, am_rs r), s_211 ⟨rfl, rfl⟩, ?_⟩
      intro v h9 hv
      obtain ⟨rfl, rfl⟩ := hv
      refine am_E.run [216, 236] 2000 (show (if (f_211 21279923 (am_u I18 97 (Int32.toNatClampNeg (v2 + 9)) 1) L19) = 0 then (am_E S 292 (d + 9) 0 0 236 [.ref 66, .int v1, .int v2, am_jk] [] (N, am_ts T, (am_u I18 97 (Int32.toNatClampNeg (v2 + 9)) 1), L19, am_rs r) Q) else (am_E S 292 (d + 9) 0 0 216 [.ref 66, .int v1, .int v2, am_jk] [.ref 66] (N, am_ts T, (am_u I18 97 (Int32.toNatClampNeg (v2 + 9)) 1), L19, am_rs r) Q)) from ?_)
      by_cases hc : (f_211 21279923 (am_u I18 97 (Int32.toNatClampNeg (v2 + 9)) 1) L19) = 0
      · rw [if_pos hc] at hw ⊢
        exact am_E.junk (sb_292_236 hw hK) (am_le.cons (am_le.jk (am_le.cons (am_le.cons am_le.nil))))
      · rw [if_neg hc] at hw ⊢
        refine am_E.go ⟨am_kv_IL N T r _, s_207 hw (fun I20 L21 hk => ⟨I20, L21, rfl, rfl, hk⟩), ?_⟩
        intro v h9 hv
        obtain ⟨I20, L21, rfl, rfl, hw⟩ := hv
        try dsimp only at hw
        refine am_E.run [232] 2000 (show (am_E S 292 (d + 9) 0 0 232 [.ref 66, .int v1, .int v2, am_jk] [.long 20, .long 1, .ref 66, .int (v2 + 9), .ref 97] (N, am_ts T, I20, L21, am_rs r) Q) from ?_)
        refine am_E.go ⟨am_ki_IL N T r _, s_223 hw (fun q22 I23 L24 hk => ⟨q22, I23, L24, rfl, rfl, hk⟩), ?_⟩
        intro v h9 hv
        obtain ⟨q22, I23, L24, rfl, rfl, hw⟩ := hv
        try dsimp only at hw
        refine am_E.run [236] 2000 (show (if (v2 + 9) < 0 ∨ 120 ≤ Int32.toNatClampNeg (v2 + 9) then False else (am_E S 292 (d + 9) 0 0 236 [.ref 66, .int v1, .int v2, am_jk] [] (N, am_ts T, (am_u I23 97 (Int32.toNatClampNeg (v2 + 9)) q22), L24, am_rs r) Q)) from ?_)
        refine am_ifn hw.1 ?_
        replace hw := hw.2
        exact am_E.junk (sb_292_236 hw hK) (am_le.cons (am_le.jk (am_le.cons (am_le.cons am_le.nil))))
    · rw [if_neg hc] at hw ⊢
      exact am_E.junk (sb_292_236 hw hK) (am_le.cons (am_le.jk (am_le.cons (am_le.cons am_le.nil))))
  · rw [if_neg hc] at hw ⊢
    exact am_E.junk (sb_292_188 hw hK) (am_le.cons (am_le.jk (am_le.cons (am_le.cons am_le.nil))))
def wb_292_146 (v1 : Int32) (v2 : Int32) (I : am_I) (L : am_J) (K : am_I → am_J → Prop) : Prop :=
  w_293 (v2 + 1) I L (fun I5 L6 =>
    if v1 = 0 then
      wb_292_170 v1 v2 (v2 + 3) 89 I5 L6 K
    else
      wb_292_170 v1 v2 (v2 + 3) 486 I5 L6 K)
set_option maxHeartbeats 6000000 in
set_option maxRecDepth 100000 in
theorem sb_292_146 {S : am_S} {d : Nat} {N : Nat} {T : Nat → Nat × Nat} {I : am_I} {L : am_J} {r : Nat → Nat → Option Nat} {Q : am_Q} {v1 : Int32} {v2 : Int32} {K : am_I → am_J → Prop} (hw : wb_292_146 v1 v2 I L K) (hK : ∀ (I1 : am_I) (L1 : am_J), K I1 L1 → Q (none) (N, am_ts T, I1, L1, am_rs r)) : am_E S 292 (d + 9) 0 0 146 [.ref 66, .int v1, .int v2, am_jk] [] (N, am_ts T, I, L, am_rs r) Q := by
  unfold wb_292_146 at hw
  try dsimp only at hw
  refine am_E.run [150] 2000 (show (am_E S 292 (d + 9) 0 0 150 [.ref 66, .int v1, .int v2, am_jk] [.int (v2 + 1), .ref 66] (N, am_ts T, I, L, am_rs r) Q) from ?_)
  refine am_E.go ⟨am_kv_IL N T r _, s_293 hw (fun I5 L6 hk => ⟨I5, L6, rfl, rfl, hk⟩), ?_⟩
  intro v h9 hv
  obtain ⟨I5, L6, rfl, rfl, hw⟩ := hv
  try dsimp only at hw
  refine am_E.run [170] 2000 (show (if v1 = 0 then (am_E S 292 (d + 9) 0 0 170 [.ref 66, .int v1, .int v2, am_jk] [.long 89, .int (v2 + 3), .ref 66] (N, am_ts T, I5, L6, am_rs r) Q) else (am_E S 292 (d + 9) 0 0 170 [.ref 66, .int v1, .int v2, am_jk] [.long 486, .int (v2 + 3), .ref 66] (N, am_ts T, I5, L6, am_rs r) Q)) from ?_)
  by_cases hc : v1 = 0
  · rw [if_pos hc] at hw ⊢
    exact sb_292_170 hw hK
  · rw [if_neg hc] at hw ⊢
    exact sb_292_170 hw hK
def wb_292_173 (v1 : Int32) (v2 : Int32) (I : am_I) (L : am_J) (K : am_I → am_J → Prop) : Prop :=
  if v1 = 1 then
    w_294 (v2 + 5) 655 I L (fun I25 L26 =>
      ¬ ((v2 + 9) < 0 ∨ 120 ≤ Int32.toNatClampNeg (v2 + 9)) ∧
      if (I25 66 19) = 0 then
        if (f_211 21279923 (am_u I25 97 (Int32.toNatClampNeg (v2 + 9)) 1) L26) = 0 then
          wb_292_236 v2 (am_u I25 97 (Int32.toNatClampNeg (v2 + 9)) 1) L26 K
        else
          w_207 (am_u I25 97 (Int32.toNatClampNeg (v2 + 9)) 1) L26 (fun I27 L28 =>
            w_223 1 20 I27 L28 (fun q29 I30 L31 =>
              ¬ ((v2 + 9) < 0 ∨ 120 ≤ Int32.toNatClampNeg (v2 + 9)) ∧
              wb_292_236 v2 (am_u I30 97 (Int32.toNatClampNeg (v2 + 9)) q29) L31 K))
      else
        wb_292_236 v2 (am_u I25 97 (Int32.toNatClampNeg (v2 + 9)) 1) L26 K)
  else
    wb_292_188 v2 I L K
set_option maxHeartbeats 6000000 in
set_option maxRecDepth 100000 in
theorem sb_292_173 {S : am_S} {d : Nat} {N : Nat} {T : Nat → Nat × Nat} {I : am_I} {L : am_J} {r : Nat → Nat → Option Nat} {Q : am_Q} {v1 : Int32} {v2 : Int32} {K : am_I → am_J → Prop} (hw : wb_292_173 v1 v2 I L K) (hK : ∀ (I1 : am_I) (L1 : am_J), K I1 L1 → Q (none) (N, am_ts T, I1, L1, am_rs r)) : am_E S 292 (d + 9) 0 0 173 [.ref 66, .int v1, .int v2, am_jk] [] (N, am_ts T, I, L, am_rs r) Q := by
  unfold wb_292_173 at hw
  try dsimp only at hw
  refine am_E.run [185, 188] 2000 (show (if v1 = 1 then (am_E S 292 (d + 9) 0 0 185 [.ref 66, .int v1, .int v2, am_jk] [.long 655, .int (v2 + 5), .ref 66] (N, am_ts T, I, L, am_rs r) Q) else (am_E S 292 (d + 9) 0 0 188 [.ref 66, .int v1, .int v2, am_jk] [] (N, am_ts T, I, L, am_rs r) Q)) from ?_)
  by_cases hc : v1 = 1
  · rw [if_pos hc] at hw ⊢
    refine am_E.go ⟨am_kv_IL N T r _, s_294 hw (fun I25 L26 hk => ⟨I25, L26, rfl, rfl, hk⟩), ?_⟩
    intro v h9 hv
    obtain ⟨I25, L26, rfl, rfl, hw⟩ := hv
    try dsimp only at hw
    refine am_E.run [209, 236] 2000 (show (if (v2 + 9) < 0 ∨ 120 ≤ Int32.toNatClampNeg (v2 + 9) then False else (if (I25 66 19) = 0 then (am_E S 292 (d + 9) 0 0 209 [.ref 66, .int v1, .int v2, am_jk] [.long 21279923, .ref 66] (N, am_ts T, (am_u I25 97 (Int32.toNatClampNeg (v2 + 9)) 1), L26, am_rs r) Q) else (am_E S 292 (d + 9) 0 0 236 [.ref 66, .int v1, .int v2, am_jk] [] (N, am_ts T, (am_u I25 97 (Int32.toNatClampNeg (v2 + 9)) 1), L26, am_rs r) Q))) from ?_)
    refine am_ifn hw.1 ?_
    replace hw := hw.2
    by_cases hc : (I25 66 19) = 0
    · rw [if_pos hc] at hw ⊢
      refine am_E.go ⟨fun v h9 => v = some (.int (f_211 21279923 (am_u I25 97 (Int32.toNatClampNeg (v2 + 9)) 1) L26)) ∧ h9 = (N, am_ts T, (am_u I25 97 (Int32.toNatClampNeg (v2 + 9)) 1), L26, am_rs r), s_211 ⟨rfl, rfl⟩, ?_⟩
      intro v h9 hv
      obtain ⟨rfl, rfl⟩ := hv
      refine am_E.run [216, 236] 2000 (show (if (f_211 21279923 (am_u I25 97 (Int32.toNatClampNeg (v2 + 9)) 1) L26) = 0 then (am_E S 292 (d + 9) 0 0 236 [.ref 66, .int v1, .int v2, am_jk] [] (N, am_ts T, (am_u I25 97 (Int32.toNatClampNeg (v2 + 9)) 1), L26, am_rs r) Q) else (am_E S 292 (d + 9) 0 0 216 [.ref 66, .int v1, .int v2, am_jk] [.ref 66] (N, am_ts T, (am_u I25 97 (Int32.toNatClampNeg (v2 + 9)) 1), L26, am_rs r) Q)) from ?_)
      by_cases hc : (f_211 21279923 (am_u I25 97 (Int32.toNatClampNeg (v2 + 9)) 1) L26) = 0
      · rw [if_pos hc] at hw ⊢
        exact am_E.junk (sb_292_236 hw hK) (am_le.cons (am_le.jk (am_le.cons (am_le.cons am_le.nil))))
      · rw [if_neg hc] at hw ⊢
        refine am_E.go ⟨am_kv_IL N T r _, s_207 hw (fun I27 L28 hk => ⟨I27, L28, rfl, rfl, hk⟩), ?_⟩
        intro v h9 hv
        obtain ⟨I27, L28, rfl, rfl, hw⟩ := hv
        try dsimp only at hw
        refine am_E.run [232] 2000 (show (am_E S 292 (d + 9) 0 0 232 [.ref 66, .int v1, .int v2, am_jk] [.long 20, .long 1, .ref 66, .int (v2 + 9), .ref 97] (N, am_ts T, I27, L28, am_rs r) Q) from ?_)
        refine am_E.go ⟨am_ki_IL N T r _, s_223 hw (fun q29 I30 L31 hk => ⟨q29, I30, L31, rfl, rfl, hk⟩), ?_⟩
        intro v h9 hv
        obtain ⟨q29, I30, L31, rfl, rfl, hw⟩ := hv
        try dsimp only at hw
        refine am_E.run [236] 2000 (show (if (v2 + 9) < 0 ∨ 120 ≤ Int32.toNatClampNeg (v2 + 9) then False else (am_E S 292 (d + 9) 0 0 236 [.ref 66, .int v1, .int v2, am_jk] [] (N, am_ts T, (am_u I30 97 (Int32.toNatClampNeg (v2 + 9)) q29), L31, am_rs r) Q)) from ?_)
        refine am_ifn hw.1 ?_
        replace hw := hw.2
        exact am_E.junk (sb_292_236 hw hK) (am_le.cons (am_le.jk (am_le.cons (am_le.cons am_le.nil))))
    · rw [if_neg hc] at hw ⊢
      exact am_E.junk (sb_292_236 hw hK) (am_le.cons (am_le.jk (am_le.cons (am_le.cons am_le.nil))))
  · rw [if_neg hc] at hw ⊢
    exact am_E.junk (sb_292_188 hw hK) (am_le.cons (am_le.jk (am_le.cons (am_le.cons am_le.nil))))
def wb_292_78 (v1 : Int32) (s1 : Int32) (I : am_I) (L : am_J) (K : am_I → am_J → Prop) : Prop :=
  w_212 s1 I L (fun I1 L2 =>
    if (I1 66 19) = 0 then
      ∃ n109, lw_292_109 n109 v1 (10 * (I1 66 21)) 0 (am_u I1 66 21 ((I1 66 21) + 1)) L2 (fun o3 I4 =>
        ¬ ((10 * (I1 66 21)) < 0 ∨ 120 ≤ Int32.toNatClampNeg (10 * (I1 66 21))) ∧
        if v1 = 0 then
          wb_292_146 v1 (10 * (I1 66 21)) (am_u I4 97 (Int32.toNatClampNeg (10 * (I1 66 21))) v1) L2 K
        else
          if v1 = 1 then
            wb_292_146 v1 (10 * (I1 66 21)) (am_u I4 97 (Int32.toNatClampNeg (10 * (I1 66 21))) v1) L2 K
          else
            wb_292_173 v1 (10 * (I1 66 21)) (am_u I4 97 (Int32.toNatClampNeg (10 * (I1 66 21))) v1) L2 K)
    else
      K I1 L2)
set_option maxHeartbeats 6000000 in
set_option maxRecDepth 100000 in
theorem sb_292_78 {S : am_S} {d : Nat} {N : Nat} {T : Nat → Nat × Nat} {I : am_I} {L : am_J} {r : Nat → Nat → Option Nat} {Q : am_Q} {v1 : Int32} {s1 : Int32} {K : am_I → am_J → Prop} (hw : wb_292_78 v1 s1 I L K) (hK : ∀ (I1 : am_I) (L1 : am_J), K I1 L1 → Q (none) (N, am_ts T, I1, L1, am_rs r)) : am_E S 292 (d + 9) 0 0 78 [.ref 66, .int v1, am_jk, am_jk] [.int s1, .ref 66] (N, am_ts T, I, L, am_rs r) Q := by
  unfold wb_292_78 at hw
  try dsimp only at hw
  show (am_E S 292 (d + 9) 0 0 78 [.ref 66, .int v1, am_jk, am_jk] [.int s1, .ref 66] (N, am_ts T, I, L, am_rs r) Q)
  refine am_E.go ⟨am_kv_IL N T r _, s_212 hw (fun I1 L2 hk => ⟨I1, L2, rfl, rfl, hk⟩), ?_⟩
  intro v h9 hv
  obtain ⟨I1, L2, rfl, rfl, hw⟩ := hv
  try dsimp only at hw
  refine am_E.run [109] 2000 (show (if (I1 66 19) = 0 then (am_E S 292 (d + 9) 0 0 109 [.ref 66, .int v1, .int (10 * (I1 66 21)), .int 0] [] (N, am_ts T, (am_u I1 66 21 ((I1 66 21) + 1)), L2, am_rs r) Q) else (True ∧ Q (none) (N, am_ts T, I1, L2, am_rs r))) from ?_)
  by_cases hc : (I1 66 19) = 0
  · rw [if_pos hc] at hw ⊢
    obtain ⟨n109, hw⟩ := hw
    refine sl_292_109 n109 hw (fun o3 I4 hw => ?_)
    · try dsimp only at hw
      refine am_E.run [146, 173] 2000 (show (if (10 * (I1 66 21)) < 0 ∨ 120 ≤ Int32.toNatClampNeg (10 * (I1 66 21)) then False else (if v1 = 0 then (am_E S 292 (d + 9) 0 0 146 [.ref 66, .int v1, .int (10 * (I1 66 21)), .int o3] [] (N, am_ts T, (am_u I4 97 (Int32.toNatClampNeg (10 * (I1 66 21))) v1), L2, am_rs r) Q) else (if v1 = 1 then (am_E S 292 (d + 9) 0 0 146 [.ref 66, .int v1, .int (10 * (I1 66 21)), .int o3] [] (N, am_ts T, (am_u I4 97 (Int32.toNatClampNeg (10 * (I1 66 21))) v1), L2, am_rs r) Q) else (am_E S 292 (d + 9) 0 0 173 [.ref 66, .int v1, .int (10 * (I1 66 21)), .int o3] [] (N, am_ts T, (am_u I4 97 (Int32.toNatClampNeg (10 * (I1 66 21))) v1), L2, am_rs r) Q)))) from ?_)
      refine am_ifn hw.1 ?_
      replace hw := hw.2
      by_cases hc : v1 = 0
      · rw [if_pos hc] at hw ⊢
        exact am_E.junk (sb_292_146 hw hK) (am_le.cons (am_le.cons (am_le.cons (am_le.jk am_le.nil))))
      · rw [if_neg hc] at hw ⊢
        by_cases hc : v1 = 1
        · rw [if_pos hc] at hw ⊢
          exact am_E.junk (sb_292_146 hw hK) (am_le.cons (am_le.cons (am_le.cons (am_le.jk am_le.nil))))
        · rw [if_neg hc] at hw ⊢
          exact am_E.junk (sb_292_173 hw hK) (am_le.cons (am_le.cons (am_le.cons (am_le.jk am_le.nil))))
  · rw [if_neg hc] at hw ⊢
    exact ⟨trivial, hK _ _ hw⟩
def wb_292_57 (s0 : Int32) (I : am_I) (L : am_J) (K : am_I → am_J → Prop) : Prop :=
  if s0 = (-1) then
    wb_292_78 s0 0 I L K
  else
    if (12 : Int32) ≤ (I 66 21) then
      wb_292_78 s0 0 I L K
    else
      wb_292_78 s0 1 I L K
set_option maxHeartbeats 6000000 in
set_option maxRecDepth 100000 in
theorem sb_292_57 {S : am_S} {d : Nat} {N : Nat} {T : Nat → Nat × Nat} {I : am_I} {L : am_J} {r : Nat → Nat → Option Nat} {Q : am_Q} {s0 : Int32} {K : am_I → am_J → Prop} (hw : wb_292_57 s0 I L K) (hK : ∀ (I1 : am_I) (L1 : am_J), K I1 L1 → Q (none) (N, am_ts T, I1, L1, am_rs r)) : am_E S 292 (d + 9) 0 0 57 [.ref 66, am_jk, am_jk, am_jk] [.int s0] (N, am_ts T, I, L, am_rs r) Q := by
  unfold wb_292_57 at hw
  try dsimp only at hw
  refine am_E.run [78] 2000 (show (if s0 = (-1) then (am_E S 292 (d + 9) 0 0 78 [.ref 66, .int s0, am_jk, am_jk] [.int 0, .ref 66] (N, am_ts T, I, L, am_rs r) Q) else (if (12 : Int32) ≤ (I 66 21) then (am_E S 292 (d + 9) 0 0 78 [.ref 66, .int s0, am_jk, am_jk] [.int 0, .ref 66] (N, am_ts T, I, L, am_rs r) Q) else (am_E S 292 (d + 9) 0 0 78 [.ref 66, .int s0, am_jk, am_jk] [.int 1, .ref 66] (N, am_ts T, I, L, am_rs r) Q))) from ?_)
  by_cases hc : s0 = (-1)
  · rw [if_pos hc] at hw ⊢
    exact sb_292_78 hw hK
  · rw [if_neg hc] at hw ⊢
    by_cases hc : (12 : Int32) ≤ (I 66 21)
    · rw [if_pos hc] at hw ⊢
      exact sb_292_78 hw hK
    · rw [if_neg hc] at hw ⊢
      exact sb_292_78 hw hK
/-- KeyKeepersModel.readOrder()V -/
def w_292 (I : am_I) (L : am_J) (K : am_I → am_J → Prop) : Prop :=
  if (f_211 239 I L) = 0 then
    if (f_211 239301 I L) = 0 then
      if (f_211 10153890932 I L) = 0 then
        if (f_211 754996 I L) = 0 then
          wb_292_57 (-1) I L K
        else
          wb_292_57 3 I L K
      else
        wb_292_57 2 I L K
    else
      wb_292_57 1 I L K
  else
    wb_292_57 0 I L K
set_option maxHeartbeats 6000000 in
set_option maxRecDepth 100000 in
theorem s_292 {S : am_S} {d : Nat} {N : Nat} {T : Nat → Nat × Nat} {I : am_I} {L : am_J} {r : Nat → Nat → Option Nat} {Q : am_Q} {K : am_I → am_J → Prop} (hw : w_292 I L K) (hK : ∀ (I1 : am_I) (L1 : am_J), K I1 L1 → Q (none) (N, am_ts T, I1, L1, am_rs r)) : am_E S 292 (d + 9) 0 0 0 [.ref 66, am_jk, am_jk, am_jk] [] (N, am_ts T, I, L, am_rs r) Q := by
  unfold w_292 at hw
  try dsimp only at hw
  refine am_E.run [4] 2000 (show (am_E S 292 (d + 9) 0 0 4 [.ref 66, am_jk, am_jk, am_jk] [.long 239, .ref 66] (N, am_ts T, I, L, am_rs r) Q) from ?_)
  refine am_E.go ⟨fun v h9 => v = some (.int (f_211 239 I L)) ∧ h9 = (N, am_ts T, I, L, am_rs r), s_211 ⟨rfl, rfl⟩, ?_⟩
  intro v h9 hv
  obtain ⟨rfl, rfl⟩ := hv
  refine am_E.run [18, 57] 2000 (show (if (f_211 239 I L) = 0 then (am_E S 292 (d + 9) 0 0 18 [.ref 66, am_jk, am_jk, am_jk] [.long 239301, .ref 66] (N, am_ts T, I, L, am_rs r) Q) else (am_E S 292 (d + 9) 0 0 57 [.ref 66, am_jk, am_jk, am_jk] [.int 0] (N, am_ts T, I, L, am_rs r) Q)) from ?_)
  by_cases hc : (f_211 239 I L) = 0
  · rw [if_pos hc] at hw ⊢
    refine am_E.go ⟨fun v h9 => v = some (.int (f_211 239301 I L)) ∧ h9 = (N, am_ts T, I, L, am_rs r), s_211 ⟨rfl, rfl⟩, ?_⟩
    intro v h9 hv
    obtain ⟨rfl, rfl⟩ := hv
    refine am_E.run [32, 57] 2000 (show (if (f_211 239301 I L) = 0 then (am_E S 292 (d + 9) 0 0 32 [.ref 66, am_jk, am_jk, am_jk] [.long 10153890932, .ref 66] (N, am_ts T, I, L, am_rs r) Q) else (am_E S 292 (d + 9) 0 0 57 [.ref 66, am_jk, am_jk, am_jk] [.int 1] (N, am_ts T, I, L, am_rs r) Q)) from ?_)
    by_cases hc : (f_211 239301 I L) = 0
    · rw [if_pos hc] at hw ⊢
      refine am_E.go ⟨fun v h9 => v = some (.int (f_211 10153890932 I L)) ∧ h9 = (N, am_ts T, I, L, am_rs r), s_211 ⟨rfl, rfl⟩, ?_⟩
      intro v h9 hv
      obtain ⟨rfl, rfl⟩ := hv
      refine am_E.run [46, 57] 2000 (show (if (f_211 10153890932 I L) = 0 then (am_E S 292 (d + 9) 0 0 46 [.ref 66, am_jk, am_jk, am_jk] [.long 754996, .ref 66] (N, am_ts T, I, L, am_rs r) Q) else (am_E S 292 (d + 9) 0 0 57 [.ref 66, am_jk, am_jk, am_jk] [.int 2] (N, am_ts T, I, L, am_rs r) Q)) from ?_)
      by_cases hc : (f_211 10153890932 I L) = 0
      · rw [if_pos hc] at hw ⊢
        refine am_E.go ⟨fun v h9 => v = some (.int (f_211 754996 I L)) ∧ h9 = (N, am_ts T, I, L, am_rs r), s_211 ⟨rfl, rfl⟩, ?_⟩
        intro v h9 hv
        obtain ⟨rfl, rfl⟩ := hv
        refine am_E.run [57] 2000 (show (if (f_211 754996 I L) = 0 then (am_E S 292 (d + 9) 0 0 57 [.ref 66, am_jk, am_jk, am_jk] [.int (-1)] (N, am_ts T, I, L, am_rs r) Q) else (am_E S 292 (d + 9) 0 0 57 [.ref 66, am_jk, am_jk, am_jk] [.int 3] (N, am_ts T, I, L, am_rs r) Q)) from ?_)
        by_cases hc : (f_211 754996 I L) = 0
        · rw [if_pos hc] at hw ⊢
          exact sb_292_57 hw hK
        · rw [if_neg hc] at hw ⊢
          exact sb_292_57 hw hK
      · rw [if_neg hc] at hw ⊢
        exact sb_292_57 hw hK
    · rw [if_neg hc] at hw ⊢
      exact sb_292_57 hw hK
  · rw [if_neg hc] at hw ⊢
    exact sb_292_57 hw hK
