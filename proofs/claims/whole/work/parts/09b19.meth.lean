def lw_207_8 : Nat → am_I → am_J → (am_I → Prop) → Prop
  | 0, _, _, _ => False
  | n + 1, I, L, E0 =>
    if (I 66 13) ≤ (I 66 14) then
      E0 I
    else
      ¬ ((I 66 14) < 0 ∨ 400 ≤ Int32.toNatClampNeg (I 66 14)) ∧
      if (I 75 (Int32.toNatClampNeg (I 66 14))) = 32 then
        lw_207_8 n (am_u I 66 14 ((I 66 14) + 1)) L E0
      else
        E0 I
set_option maxHeartbeats 6000000 in
set_option maxRecDepth 100000 in
theorem sl_207_8 {S : am_S} {d : Nat} {Q : am_Q} {N : Nat} {T : Nat → Nat × Nat} {L : am_J} {r : Nat → Nat → Option Nat} {E0 : am_I → Prop} : ∀ (n : Nat) {I : am_I}, lw_207_8 n I L E0 → (∀ (I1 : am_I), E0 I1 → am_E S 207 (d + 1) 0 0 46 [.ref 66] [] (N, am_ts T, I1, L, am_rs r) Q) → am_E S 207 (d + 1) 0 0 8 [.ref 66] [] (N, am_ts T, I, L, am_rs r) Q
  | 0, _, hw, _ => hw.elim
  | n + 1, I, hw, hE0 => by
    have ih := @sl_207_8 S d Q N T L r E0 n
    unfold lw_207_8 at hw
    try dsimp only at hw
    refine am_E.run [8, 46] 2000 (show (if (I 66 13) ≤ (I 66 14) then (am_E S 207 (d + 1) 0 0 46 [.ref 66] [] (N, am_ts T, I, L, am_rs r) Q) else (if (I 66 14) < 0 ∨ 400 ≤ Int32.toNatClampNeg (I 66 14) then False else (if (I 75 (Int32.toNatClampNeg (I 66 14))) = 32 then (am_E S 207 (d + 1) 0 0 8 [.ref 66] [] (N, am_ts T, (am_u I 66 14 ((I 66 14) + 1)), L, am_rs r) Q) else (am_E S 207 (d + 1) 0 0 46 [.ref 66] [] (N, am_ts T, I, L, am_rs r) Q)))) from ?_)
    by_cases hc : (I 66 13) ≤ (I 66 14)
    · rw [if_pos hc] at hw ⊢
      exact hE0 _ hw
    · rw [if_neg hc] at hw ⊢
      refine am_ifn hw.1 ?_
      replace hw := hw.2
      by_cases hc : (I 75 (Int32.toNatClampNeg (I 66 14))) = 32
      · rw [if_pos hc] at hw ⊢
        exact ih hw hE0
      · rw [if_neg hc] at hw ⊢
        exact hE0 _ hw
def lw_207_149 : Nat → am_I → am_J → (am_I → am_J → Prop) → Prop
  | 0, _, _, _ => False
  | n + 1, I, L, E0 =>
    if (I 66 16) = 1 then
      if (I 66 13) ≤ (I 66 15) then
        E0 I L
      else
        ¬ ((I 66 15) < 0 ∨ 400 ≤ Int32.toNatClampNeg (I 66 15)) ∧
        if (f_208 (I 75 (Int32.toNatClampNeg (I 66 15)))) = 0 then
          E0 I L
        else
          if (10 : Int32) ≤ ((I 66 15) - (I 66 14)) then
            lw_207_149 n (am_u I 66 15 ((I 66 15) + 1)) (am_u L 66 17 (-1)) E0
          else
            ¬ ((I 66 15) < 0 ∨ 400 ≤ Int32.toNatClampNeg (I 66 15)) ∧
            lw_207_149 n (am_u I 66 15 ((I 66 15) + 1)) (am_u L 66 17 ((((L 66 17) * 32) + (Int32.toInt64 (I 75 (Int32.toNatClampNeg (I 66 15))))) - 96)) E0
    else
      E0 I L
set_option maxHeartbeats 6000000 in
set_option maxRecDepth 100000 in
theorem sl_207_149 {S : am_S} {d : Nat} {Q : am_Q} {N : Nat} {T : Nat → Nat × Nat} {r : Nat → Nat → Option Nat} {E0 : am_I → am_J → Prop} : ∀ (n : Nat) {I : am_I} {L : am_J}, lw_207_149 n I L E0 → (∀ (I1 : am_I) (L1 : am_J), E0 I1 L1 → am_E S 207 (d + 1) 0 0 243 [.ref 66] [] (N, am_ts T, I1, L1, am_rs r) Q) → am_E S 207 (d + 1) 0 0 149 [.ref 66] [] (N, am_ts T, I, L, am_rs r) Q
  | 0, _, _, hw, _ => hw.elim
  | n + 1, I, L, hw, hE0 => by
    have ih := @sl_207_149 S d Q N T r E0 n
    unfold lw_207_149 at hw
    try dsimp only at hw
    refine am_E.run [177, 243] 2000 (show (if (I 66 16) = 1 then (if (I 66 13) ≤ (I 66 15) then (am_E S 207 (d + 1) 0 0 243 [.ref 66] [] (N, am_ts T, I, L, am_rs r) Q) else (if (I 66 15) < 0 ∨ 400 ≤ Int32.toNatClampNeg (I 66 15) then False else (am_E S 207 (d + 1) 0 0 177 [.ref 66] [.int (I 75 (Int32.toNatClampNeg (I 66 15)))] (N, am_ts T, I, L, am_rs r) Q))) else (am_E S 207 (d + 1) 0 0 243 [.ref 66] [] (N, am_ts T, I, L, am_rs r) Q)) from ?_)
    by_cases hc : (I 66 16) = 1
    · rw [if_pos hc] at hw ⊢
      by_cases hc : (I 66 13) ≤ (I 66 15)
      · rw [if_pos hc] at hw ⊢
        exact hE0 _ _ hw
      · rw [if_neg hc] at hw ⊢
        refine am_ifn hw.1 ?_
        replace hw := hw.2
        refine am_E.go ⟨fun v h9 => v = some (.int (f_208 (I 75 (Int32.toNatClampNeg (I 66 15))))) ∧ h9 = (N, am_ts T, I, L, am_rs r), s_208 ⟨rfl, rfl⟩, ?_⟩
        intro v h9 hv
        obtain ⟨rfl, rfl⟩ := hv
        refine am_E.run [149, 243] 2000 (show (if (f_208 (I 75 (Int32.toNatClampNeg (I 66 15)))) = 0 then (am_E S 207 (d + 1) 0 0 243 [.ref 66] [] (N, am_ts T, I, L, am_rs r) Q) else (if (10 : Int32) ≤ ((I 66 15) - (I 66 14)) then (am_E S 207 (d + 1) 0 0 149 [.ref 66] [] (N, am_ts T, (am_u I 66 15 ((I 66 15) + 1)), (am_u L 66 17 (-1)), am_rs r) Q) else (if (I 66 15) < 0 ∨ 400 ≤ Int32.toNatClampNeg (I 66 15) then False else (am_E S 207 (d + 1) 0 0 149 [.ref 66] [] (N, am_ts T, (am_u I 66 15 ((I 66 15) + 1)), (am_u L 66 17 ((((L 66 17) * 32) + (Int32.toInt64 (I 75 (Int32.toNatClampNeg (I 66 15))))) - 96)), am_rs r) Q)))) from ?_)
        by_cases hc : (f_208 (I 75 (Int32.toNatClampNeg (I 66 15)))) = 0
        · rw [if_pos hc] at hw ⊢
          exact hE0 _ _ hw
        · rw [if_neg hc] at hw ⊢
          by_cases hc : (10 : Int32) ≤ ((I 66 15) - (I 66 14))
          · rw [if_pos hc] at hw ⊢
            exact ih hw hE0
          · rw [if_neg hc] at hw ⊢
            refine am_ifn hw.1 ?_
            replace hw := hw.2
            exact ih hw hE0
    · rw [if_neg hc] at hw ⊢
      exact hE0 _ _ hw
def lw_207_243 : Nat → am_I → am_J → (am_I → am_J → Prop) → Prop
  | 0, _, _, _ => False
  | n + 1, I, L, E0 =>
    if (I 66 16) = 2 then
      if (I 66 13) ≤ (I 66 15) then
        E0 I L
      else
        ¬ ((I 66 15) < 0 ∨ 400 ≤ Int32.toNatClampNeg (I 66 15)) ∧
        if (f_209 (I 75 (Int32.toNatClampNeg (I 66 15)))) = 0 then
          E0 I L
        else
          if (lg_cmp (L 66 17) 1000000) ≤ 0 then
            ¬ ((I 66 15) < 0 ∨ 400 ≤ Int32.toNatClampNeg (I 66 15)) ∧
            lw_207_243 n (am_u I 66 15 ((I 66 15) + 1)) (am_u L 66 17 ((((L 66 17) * 10) + (Int32.toInt64 (I 75 (Int32.toNatClampNeg (I 66 15))))) - 48)) E0
          else
            lw_207_243 n (am_u I 66 15 ((I 66 15) + 1)) (am_u L 66 17 (L 66 17)) E0
    else
      E0 I L
set_option maxHeartbeats 6000000 in
set_option maxRecDepth 100000 in
theorem sl_207_243 {S : am_S} {d : Nat} {Q : am_Q} {N : Nat} {T : Nat → Nat × Nat} {r : Nat → Nat → Option Nat} {E0 : am_I → am_J → Prop} : ∀ (n : Nat) {I : am_I} {L : am_J}, lw_207_243 n I L E0 → (∀ (I1 : am_I) (L1 : am_J), E0 I1 L1 → am_E S 207 (d + 1) 0 0 335 [.ref 66] [] (N, am_ts T, I1, L1, am_rs r) Q) → am_E S 207 (d + 1) 0 0 243 [.ref 66] [] (N, am_ts T, I, L, am_rs r) Q
  | 0, _, _, hw, _ => hw.elim
  | n + 1, I, L, hw, hE0 => by
    have ih := @sl_207_243 S d Q N T r E0 n
    unfold lw_207_243 at hw
    try dsimp only at hw
    refine am_E.run [271, 335] 2000 (show (if (I 66 16) = 2 then (if (I 66 13) ≤ (I 66 15) then (am_E S 207 (d + 1) 0 0 335 [.ref 66] [] (N, am_ts T, I, L, am_rs r) Q) else (if (I 66 15) < 0 ∨ 400 ≤ Int32.toNatClampNeg (I 66 15) then False else (am_E S 207 (d + 1) 0 0 271 [.ref 66] [.int (I 75 (Int32.toNatClampNeg (I 66 15)))] (N, am_ts T, I, L, am_rs r) Q))) else (am_E S 207 (d + 1) 0 0 335 [.ref 66] [] (N, am_ts T, I, L, am_rs r) Q)) from ?_)
    by_cases hc : (I 66 16) = 2
    · rw [if_pos hc] at hw ⊢
      by_cases hc : (I 66 13) ≤ (I 66 15)
      · rw [if_pos hc] at hw ⊢
        exact hE0 _ _ hw
      · rw [if_neg hc] at hw ⊢
        refine am_ifn hw.1 ?_
        replace hw := hw.2
        refine am_E.go ⟨fun v h9 => v = some (.int (f_209 (I 75 (Int32.toNatClampNeg (I 66 15))))) ∧ h9 = (N, am_ts T, I, L, am_rs r), s_209 ⟨rfl, rfl⟩, ?_⟩
        intro v h9 hv
        obtain ⟨rfl, rfl⟩ := hv
        refine am_E.run [243, 335] 2000 (show (if (f_209 (I 75 (Int32.toNatClampNeg (I 66 15)))) = 0 then (am_E S 207 (d + 1) 0 0 335 [.ref 66] [] (N, am_ts T, I, L, am_rs r) Q) else (if (lg_cmp (L 66 17) 1000000) ≤ 0 then (if (I 66 15) < 0 ∨ 400 ≤ Int32.toNatClampNeg (I 66 15) then False else (am_E S 207 (d + 1) 0 0 243 [.ref 66] [] (N, am_ts T, (am_u I 66 15 ((I 66 15) + 1)), (am_u L 66 17 ((((L 66 17) * 10) + (Int32.toInt64 (I 75 (Int32.toNatClampNeg (I 66 15))))) - 48)), am_rs r) Q)) else (am_E S 207 (d + 1) 0 0 243 [.ref 66] [] (N, am_ts T, (am_u I 66 15 ((I 66 15) + 1)), (am_u L 66 17 (L 66 17)), am_rs r) Q))) from ?_)
        by_cases hc : (f_209 (I 75 (Int32.toNatClampNeg (I 66 15)))) = 0
        · rw [if_pos hc] at hw ⊢
          exact hE0 _ _ hw
        · rw [if_neg hc] at hw ⊢
          by_cases hc : (lg_cmp (L 66 17) 1000000) ≤ 0
          · rw [if_pos hc] at hw ⊢
            refine am_ifn hw.1 ?_
            replace hw := hw.2
            exact ih hw hE0
          · rw [if_neg hc] at hw ⊢
            exact ih hw hE0
    · rw [if_neg hc] at hw ⊢
      exact hE0 _ _ hw
def wb_207_114 (s1 : Int32) (I : am_I) (L : am_J) (K : am_I → am_J → Prop) : Prop :=
  if s1 = 3 then
    ¬ ((I 66 14) < 0 ∨ 400 ≤ Int32.toNatClampNeg (I 66 14)) ∧
    ∃ n149, lw_207_149 n149 (am_u (am_u I 66 16 s1) 66 15 ((I 66 15) + 1)) (am_u L 66 17 (Int32.toInt64 (I 75 (Int32.toNatClampNeg (I 66 14))))) (fun I6 L7 =>
      ∃ n243, lw_207_243 n243 I6 L7 (fun I8 L9 =>
        K I8 L9))
  else
    ∃ n149, lw_207_149 n149 (am_u I 66 16 s1) L (fun I2 L3 =>
      ∃ n243, lw_207_243 n243 I2 L3 (fun I4 L5 =>
        K I4 L5))
set_option maxHeartbeats 6000000 in
set_option maxRecDepth 100000 in
theorem sb_207_114 {S : am_S} {d : Nat} {N : Nat} {T : Nat → Nat × Nat} {I : am_I} {L : am_J} {r : Nat → Nat → Option Nat} {Q : am_Q} {s1 : Int32} {K : am_I → am_J → Prop} (hw : wb_207_114 s1 I L K) (hK : ∀ (I1 : am_I) (L1 : am_J), K I1 L1 → Q (none) (N, am_ts T, I1, L1, am_rs r)) : am_E S 207 (d + 1) 0 0 114 [.ref 66] [.int s1, .ref 66] (N, am_ts T, I, L, am_rs r) Q := by
  unfold wb_207_114 at hw
  try dsimp only at hw
  refine am_E.run [149] 2000 (show (if s1 = 3 then (if (I 66 14) < 0 ∨ 400 ≤ Int32.toNatClampNeg (I 66 14) then False else (am_E S 207 (d + 1) 0 0 149 [.ref 66] [] (N, am_ts T, (am_u (am_u I 66 16 s1) 66 15 ((I 66 15) + 1)), (am_u L 66 17 (Int32.toInt64 (I 75 (Int32.toNatClampNeg (I 66 14))))), am_rs r) Q)) else (am_E S 207 (d + 1) 0 0 149 [.ref 66] [] (N, am_ts T, (am_u I 66 16 s1), L, am_rs r) Q)) from ?_)
  by_cases hc : s1 = 3
  · rw [if_pos hc] at hw ⊢
    refine am_ifn hw.1 ?_
    replace hw := hw.2
    obtain ⟨n149, hw⟩ := hw
    refine sl_207_149 n149 hw (fun I6 L7 hw => ?_)
    · try dsimp only at hw
      show (am_E S 207 (d + 1) 0 0 243 [.ref 66] [] (N, am_ts T, I6, L7, am_rs r) Q)
      obtain ⟨n243, hw⟩ := hw
      refine sl_207_243 n243 hw (fun I8 L9 hw => ?_)
      · try dsimp only at hw
        refine am_E.run [] 2000 (show (True ∧ Q (none) (N, am_ts T, I8, L9, am_rs r)) from ?_)
        exact ⟨trivial, hK _ _ hw⟩
  · rw [if_neg hc] at hw ⊢
    obtain ⟨n149, hw⟩ := hw
    refine sl_207_149 n149 hw (fun I2 L3 hw => ?_)
    · try dsimp only at hw
      show (am_E S 207 (d + 1) 0 0 243 [.ref 66] [] (N, am_ts T, I2, L3, am_rs r) Q)
      obtain ⟨n243, hw⟩ := hw
      refine sl_207_243 n243 hw (fun I4 L5 hw => ?_)
      · try dsimp only at hw
        refine am_E.run [] 2000 (show (True ∧ Q (none) (N, am_ts T, I4, L5, am_rs r)) from ?_)
        exact ⟨trivial, hK _ _ hw⟩
def wb_207_46 (I : am_I) (L : am_J) (K : am_I → am_J → Prop) : Prop :=
  if (I 66 14) = (I 66 13) then
    wb_207_114 0 (am_u I 66 15 (I 66 14)) (am_u L 66 17 0) K
  else
    ¬ ((I 66 14) < 0 ∨ 400 ≤ Int32.toNatClampNeg (I 66 14)) ∧
    if (f_208 (I 75 (Int32.toNatClampNeg (I 66 14)))) = 0 then
      ¬ ((I 66 14) < 0 ∨ 400 ≤ Int32.toNatClampNeg (I 66 14)) ∧
      if (f_209 (I 75 (Int32.toNatClampNeg (I 66 14)))) = 0 then
        wb_207_114 3 (am_u I 66 15 (I 66 14)) (am_u L 66 17 0) K
      else
        wb_207_114 2 (am_u I 66 15 (I 66 14)) (am_u L 66 17 0) K
    else
      wb_207_114 1 (am_u I 66 15 (I 66 14)) (am_u L 66 17 0) K
set_option maxHeartbeats 6000000 in
set_option maxRecDepth 100000 in
theorem sb_207_46 {S : am_S} {d : Nat} {N : Nat} {T : Nat → Nat × Nat} {I : am_I} {L : am_J} {r : Nat → Nat → Option Nat} {Q : am_Q} {K : am_I → am_J → Prop} (hw : wb_207_46 I L K) (hK : ∀ (I1 : am_I) (L1 : am_J), K I1 L1 → Q (none) (N, am_ts T, I1, L1, am_rs r)) : am_E S 207 (d + 1) 0 0 46 [.ref 66] [] (N, am_ts T, I, L, am_rs r) Q := by
  unfold wb_207_46 at hw
  try dsimp only at hw
  refine am_E.run [84, 114] 2000 (show (if (I 66 14) = (I 66 13) then (am_E S 207 (d + 1) 0 0 114 [.ref 66] [.int 0, .ref 66] (N, am_ts T, (am_u I 66 15 (I 66 14)), (am_u L 66 17 0), am_rs r) Q) else (if (I 66 14) < 0 ∨ 400 ≤ Int32.toNatClampNeg (I 66 14) then False else (am_E S 207 (d + 1) 0 0 84 [.ref 66] [.int (I 75 (Int32.toNatClampNeg (I 66 14))), .ref 66] (N, am_ts T, (am_u I 66 15 (I 66 14)), (am_u L 66 17 0), am_rs r) Q))) from ?_)
  by_cases hc : (I 66 14) = (I 66 13)
  · rw [if_pos hc] at hw ⊢
    exact sb_207_114 hw hK
  · rw [if_neg hc] at hw ⊢
    refine am_ifn hw.1 ?_
    replace hw := hw.2
    refine am_E.go ⟨fun v h9 => v = some (.int (f_208 (I 75 (Int32.toNatClampNeg (I 66 14))))) ∧ h9 = (N, am_ts T, (am_u I 66 15 (I 66 14)), (am_u L 66 17 0), am_rs r), s_208 ⟨rfl, rfl⟩, ?_⟩
    intro v h9 hv
    obtain ⟨rfl, rfl⟩ := hv
    refine am_E.run [103, 114] 2000 (show (if (f_208 (I 75 (Int32.toNatClampNeg (I 66 14)))) = 0 then (if (I 66 14) < 0 ∨ 400 ≤ Int32.toNatClampNeg (I 66 14) then False else (am_E S 207 (d + 1) 0 0 103 [.ref 66] [.int (I 75 (Int32.toNatClampNeg (I 66 14))), .ref 66] (N, am_ts T, (am_u I 66 15 (I 66 14)), (am_u L 66 17 0), am_rs r) Q)) else (am_E S 207 (d + 1) 0 0 114 [.ref 66] [.int 1, .ref 66] (N, am_ts T, (am_u I 66 15 (I 66 14)), (am_u L 66 17 0), am_rs r) Q)) from ?_)
    by_cases hc : (f_208 (I 75 (Int32.toNatClampNeg (I 66 14)))) = 0
    · rw [if_pos hc] at hw ⊢
      refine am_ifn hw.1 ?_
      replace hw := hw.2
      refine am_E.go ⟨fun v h9 => v = some (.int (f_209 (I 75 (Int32.toNatClampNeg (I 66 14))))) ∧ h9 = (N, am_ts T, (am_u I 66 15 (I 66 14)), (am_u L 66 17 0), am_rs r), s_209 ⟨rfl, rfl⟩, ?_⟩
      intro v h9 hv
      obtain ⟨rfl, rfl⟩ := hv
      refine am_E.run [114] 2000 (show (if (f_209 (I 75 (Int32.toNatClampNeg (I 66 14)))) = 0 then (am_E S 207 (d + 1) 0 0 114 [.ref 66] [.int 3, .ref 66] (N, am_ts T, (am_u I 66 15 (I 66 14)), (am_u L 66 17 0), am_rs r) Q) else (am_E S 207 (d + 1) 0 0 114 [.ref 66] [.int 2, .ref 66] (N, am_ts T, (am_u I 66 15 (I 66 14)), (am_u L 66 17 0), am_rs r) Q)) from ?_)
      by_cases hc : (f_209 (I 75 (Int32.toNatClampNeg (I 66 14)))) = 0
      · rw [if_pos hc] at hw ⊢
        exact sb_207_114 hw hK
      · rw [if_neg hc] at hw ⊢
        exact sb_207_114 hw hK
    · rw [if_neg hc] at hw ⊢
      exact sb_207_114 hw hK
/-- KeyKeepersModel.nextToken()V -/
def w_207 (I : am_I) (L : am_J) (K : am_I → am_J → Prop) : Prop :=
  ∃ n8, lw_207_8 n8 (am_u I 66 14 (I 66 15)) L (fun I1 =>
    wb_207_46 I1 L K)
set_option maxHeartbeats 6000000 in
set_option maxRecDepth 100000 in
theorem s_207 {S : am_S} {d : Nat} {N : Nat} {T : Nat → Nat × Nat} {I : am_I} {L : am_J} {r : Nat → Nat → Option Nat} {Q : am_Q} {K : am_I → am_J → Prop} (hw : w_207 I L K) (hK : ∀ (I1 : am_I) (L1 : am_J), K I1 L1 → Q (none) (N, am_ts T, I1, L1, am_rs r)) : am_E S 207 (d + 1) 0 0 0 [.ref 66] [] (N, am_ts T, I, L, am_rs r) Q := by
  unfold w_207 at hw
  try dsimp only at hw
  refine am_E.run [8] 2000 (show (am_E S 207 (d + 1) 0 0 8 [.ref 66] [] (N, am_ts T, (am_u I 66 14 (I 66 15)), L, am_rs r) Q) from ?_)
  obtain ⟨n8, hw⟩ := hw
  refine sl_207_8 n8 hw (fun I1 hw => ?_)
  · try dsimp only at hw
    show (am_E S 207 (d + 1) 0 0 46 [.ref 66] [] (N, am_ts T, I1, L, am_rs r) Q)
    exact sb_207_46 hw hK
/-- KeyKeepersModel.must(Z)V -/
def w_212 (x0 : Int32) (I : am_I) (L : am_J) (K : am_I → am_J → Prop) : Prop :=
  if (I 66 19) = 0 then
    if x0 = 0 then
      if 1 = 0 then
        w_207 (am_u (am_u I 66 19 1) 66 18 (I 66 14)) L (fun I5 L6 =>
          K I5 L6)
      else
        K (am_u (am_u I 66 19 1) 66 18 (I 66 14)) L
    else
      if (I 66 19) = 0 then
        w_207 I L (fun I3 L4 =>
          K I3 L4)
      else
        K I L
  else
    if (I 66 19) = 0 then
      w_207 I L (fun I1 L2 =>
        K I1 L2)
    else
      K I L
set_option maxRecDepth 100000 in
theorem s_212 {S : am_S} {d : Nat} {N : Nat} {T : Nat → Nat × Nat} {I : am_I} {L : am_J} {r : Nat → Nat → Option Nat} {Q : am_Q} {x0 : Int32} {K : am_I → am_J → Prop} (hw : w_212 x0 I L K) (hK : ∀ (I1 : am_I) (L1 : am_J), K I1 L1 → Q (none) (N, am_ts T, I1, L1, am_rs r)) : am_E S 212 (d + 2) 0 0 0 [.ref 66, .int x0] [] (N, am_ts T, I, L, am_rs r) Q := by
  unfold w_212 at hw
  try dsimp only at hw
  refine am_E.run [32] 2000 (show (if (I 66 19) = 0 then (if x0 = 0 then (if 1 = 0 then (am_E S 212 (d + 2) 0 0 32 [.ref 66, .int x0] [.ref 66] (N, am_ts T, (am_u (am_u I 66 19 1) 66 18 (I 66 14)), L, am_rs r) Q) else (True ∧ Q (none) (N, am_ts T, (am_u (am_u I 66 19 1) 66 18 (I 66 14)), L, am_rs r))) else (if (I 66 19) = 0 then (am_E S 212 (d + 2) 0 0 32 [.ref 66, .int x0] [.ref 66] (N, am_ts T, I, L, am_rs r) Q) else (True ∧ Q (none) (N, am_ts T, I, L, am_rs r)))) else (if (I 66 19) = 0 then (am_E S 212 (d + 2) 0 0 32 [.ref 66, .int x0] [.ref 66] (N, am_ts T, I, L, am_rs r) Q) else (True ∧ Q (none) (N, am_ts T, I, L, am_rs r)))) from ?_)
  by_cases hc : (I 66 19) = 0
  · rw [if_pos hc] at hw ⊢
    by_cases hc : x0 = 0
    · rw [if_pos hc] at hw ⊢
      by_cases hc : 1 = 0
      · rw [if_pos hc] at hw ⊢
        refine am_E.go ⟨am_kv_IL N T r _, s_207 hw (fun I5 L6 hk => ⟨I5, L6, rfl, rfl, hk⟩), ?_⟩
        intro v h9 hv
        obtain ⟨I5, L6, rfl, rfl, hw⟩ := hv
        try dsimp only at hw
        refine am_E.run [] 2000 (show (True ∧ Q (none) (N, am_ts T, I5, L6, am_rs r)) from ?_)
        exact ⟨trivial, hK _ _ hw⟩
      · rw [if_neg hc] at hw ⊢
        exact ⟨trivial, hK _ _ hw⟩
    · rw [if_neg hc] at hw ⊢
      by_cases hc : (I 66 19) = 0
      · rw [if_pos hc] at hw ⊢
        refine am_E.go ⟨am_kv_IL N T r _, s_207 hw (fun I3 L4 hk => ⟨I3, L4, rfl, rfl, hk⟩), ?_⟩
        intro v h9 hv
        obtain ⟨I3, L4, rfl, rfl, hw⟩ := hv
        try dsimp only at hw
        refine am_E.run [] 2000 (show (True ∧ Q (none) (N, am_ts T, I3, L4, am_rs r)) from ?_)
        exact ⟨trivial, hK _ _ hw⟩
      · rw [if_neg hc] at hw ⊢
        exact ⟨trivial, hK _ _ hw⟩
  · rw [if_neg hc] at hw ⊢
    by_cases hc : (I 66 19) = 0
    · rw [if_pos hc] at hw ⊢
      refine am_E.go ⟨am_kv_IL N T r _, s_207 hw (fun I1 L2 hk => ⟨I1, L2, rfl, rfl, hk⟩), ?_⟩
      intro v h9 hv
      obtain ⟨I1, L2, rfl, rfl, hw⟩ := hv
      try dsimp only at hw
      refine am_E.run [] 2000 (show (True ∧ Q (none) (N, am_ts T, I1, L2, am_rs r)) from ?_)
      exact ⟨trivial, hK _ _ hw⟩
    · rw [if_neg hc] at hw ⊢
      exact ⟨trivial, hK _ _ hw⟩
/-- KeyKeepersModel.openBracket(I)V -/
def w_217 (x0 : Int32) (I : am_I) (L : am_J) (K : am_I → am_J → Prop) : Prop :=
  if (8 : Int32) ≤ (I 66 30) then
    w_212 0 I L (fun I1 L2 =>
      if (I1 66 19) = 0 then
        w_215 x0 0 (am_u I1 66 30 ((I1 66 30) + 1)) (fun I3 =>
          K I3 L2)
      else
        K I1 L2)
  else
    w_212 1 I L (fun I4 L5 =>
      if (I4 66 19) = 0 then
        w_215 x0 0 (am_u I4 66 30 ((I4 66 30) + 1)) (fun I6 =>
          K I6 L5)
      else
        K I4 L5)
set_option maxRecDepth 100000 in
theorem s_217 {S : am_S} {d : Nat} {N : Nat} {T : Nat → Nat × Nat} {I : am_I} {L : am_J} {r : Nat → Nat → Option Nat} {Q : am_Q} {x0 : Int32} {K : am_I → am_J → Prop} (hw : w_217 x0 I L K) (hK : ∀ (I1 : am_I) (L1 : am_J), K I1 L1 → Q (none) (N, am_ts T, I1, L1, am_rs r)) : am_E S 217 (d + 3) 0 0 0 [.ref 66, .int x0] [] (N, am_ts T, I, L, am_rs r) Q := by
  unfold w_217 at hw
  try dsimp only at hw
  refine am_E.run [15] 2000 (show (if (8 : Int32) ≤ (I 66 30) then (am_E S 217 (d + 3) 0 0 15 [.ref 66, .int x0] [.int 0, .ref 66] (N, am_ts T, I, L, am_rs r) Q) else (am_E S 217 (d + 3) 0 0 15 [.ref 66, .int x0] [.int 1, .ref 66] (N, am_ts T, I, L, am_rs r) Q)) from ?_)
  by_cases hc : (8 : Int32) ≤ (I 66 30)
  · rw [if_pos hc] at hw ⊢
    refine am_E.go ⟨am_kv_IL N T r _, s_212 hw (fun I1 L2 hk => ⟨I1, L2, rfl, rfl, hk⟩), ?_⟩
    intro v h9 hv
    obtain ⟨I1, L2, rfl, rfl, hw⟩ := hv
    try dsimp only at hw
    refine am_E.run [38] 2000 (show (if (I1 66 19) = 0 then (am_E S 217 (d + 3) 0 0 38 [.ref 66, .int x0] [.int 0, .int x0, .ref 66] (N, am_ts T, (am_u I1 66 30 ((I1 66 30) + 1)), L2, am_rs r) Q) else (True ∧ Q (none) (N, am_ts T, I1, L2, am_rs r))) from ?_)
    by_cases hc : (I1 66 19) = 0
    · rw [if_pos hc] at hw ⊢
      refine am_E.go ⟨am_kv_I N T L2 r _, s_215 hw (fun I3 hk => ⟨I3, rfl, rfl, hk⟩), ?_⟩
      intro v h9 hv
      obtain ⟨I3, rfl, rfl, hw⟩ := hv
      try dsimp only at hw
      refine am_E.run [] 2000 (show (True ∧ Q (none) (N, am_ts T, I3, L2, am_rs r)) from ?_)
      exact ⟨trivial, hK _ _ hw⟩
    · rw [if_neg hc] at hw ⊢
      exact ⟨trivial, hK _ _ hw⟩
  · rw [if_neg hc] at hw ⊢
    refine am_E.go ⟨am_kv_IL N T r _, s_212 hw (fun I4 L5 hk => ⟨I4, L5, rfl, rfl, hk⟩), ?_⟩
    intro v h9 hv
    obtain ⟨I4, L5, rfl, rfl, hw⟩ := hv
    try dsimp only at hw
    refine am_E.run [38] 2000 (show (if (I4 66 19) = 0 then (am_E S 217 (d + 3) 0 0 38 [.ref 66, .int x0] [.int 0, .int x0, .ref 66] (N, am_ts T, (am_u I4 66 30 ((I4 66 30) + 1)), L5, am_rs r) Q) else (True ∧ Q (none) (N, am_ts T, I4, L5, am_rs r))) from ?_)
    by_cases hc : (I4 66 19) = 0
    · rw [if_pos hc] at hw ⊢
      refine am_E.go ⟨am_kv_I N T L5 r _, s_215 hw (fun I6 hk => ⟨I6, rfl, rfl, hk⟩), ?_⟩
      intro v h9 hv
      obtain ⟨I6, rfl, rfl, hw⟩ := hv
      try dsimp only at hw
      refine am_E.run [] 2000 (show (True ∧ Q (none) (N, am_ts T, I6, L5, am_rs r)) from ?_)
      exact ⟨trivial, hK _ _ hw⟩
    · rw [if_neg hc] at hw ⊢
      exact ⟨trivial, hK _ _ hw⟩
/-- KeyKeepersModel.leaf(ZII)V -/
def w_221 (x0 : Int32) (x1 : Int32) (x2 : Int32) (I : am_I) (L : am_J) (K : am_I → am_J → Prop) : Prop :=
  if x0 = 0 then
    w_212 0 I L (fun I1 L2 =>
      if (I1 66 19) = 0 then
        w_222 x1 x2 I1 (fun I3 =>
          K (am_u I3 66 26 ((I3 66 26) + 1)) L2)
      else
        K I1 L2)
  else
    if (50 : Int32) ≤ (I 66 26) then
      w_212 0 I L (fun I4 L5 =>
        if (I4 66 19) = 0 then
          w_222 x1 x2 I4 (fun I6 =>
            K (am_u I6 66 26 ((I6 66 26) + 1)) L5)
        else
          K I4 L5)
    else
      w_212 1 I L (fun I7 L8 =>
        if (I7 66 19) = 0 then
          w_222 x1 x2 I7 (fun I9 =>
            K (am_u I9 66 26 ((I9 66 26) + 1)) L8)
        else
          K I7 L8)
set_option maxRecDepth 100000 in
theorem s_221 {S : am_S} {d : Nat} {N : Nat} {T : Nat → Nat × Nat} {I : am_I} {L : am_J} {r : Nat → Nat → Option Nat} {Q : am_Q} {x0 : Int32} {x1 : Int32} {x2 : Int32} {K : am_I → am_J → Prop} (hw : w_221 x0 x1 x2 I L K) (hK : ∀ (I1 : am_I) (L1 : am_J), K I1 L1 → Q (none) (N, am_ts T, I1, L1, am_rs r)) : am_E S 221 (d + 3) 0 0 0 [.ref 66, .int x0, .int x1, .int x2] [] (N, am_ts T, I, L, am_rs r) Q := by
  unfold w_221 at hw
  try dsimp only at hw
  refine am_E.run [19] 2000 (show (if x0 = 0 then (am_E S 221 (d + 3) 0 0 19 [.ref 66, .int x0, .int x1, .int x2] [.int 0, .ref 66] (N, am_ts T, I, L, am_rs r) Q) else (if (50 : Int32) ≤ (I 66 26) then (am_E S 221 (d + 3) 0 0 19 [.ref 66, .int x0, .int x1, .int x2] [.int 0, .ref 66] (N, am_ts T, I, L, am_rs r) Q) else (am_E S 221 (d + 3) 0 0 19 [.ref 66, .int x0, .int x1, .int x2] [.int 1, .ref 66] (N, am_ts T, I, L, am_rs r) Q))) from ?_)
  by_cases hc : x0 = 0
  · rw [if_pos hc] at hw ⊢
    refine am_E.go ⟨am_kv_IL N T r _, s_212 hw (fun I1 L2 hk => ⟨I1, L2, rfl, rfl, hk⟩), ?_⟩
    intro v h9 hv
    obtain ⟨I1, L2, rfl, rfl, hw⟩ := hv
    try dsimp only at hw
    refine am_E.run [32] 2000 (show (if (I1 66 19) = 0 then (am_E S 221 (d + 3) 0 0 32 [.ref 66, .int x0, .int x1, .int x2] [.int x2, .int x1, .ref 66] (N, am_ts T, I1, L2, am_rs r) Q) else (True ∧ Q (none) (N, am_ts T, I1, L2, am_rs r))) from ?_)
    by_cases hc : (I1 66 19) = 0
    · rw [if_pos hc] at hw ⊢
      refine am_E.go ⟨am_kv_I N T L2 r _, s_222 hw (fun I3 hk => ⟨I3, rfl, rfl, hk⟩), ?_⟩
      intro v h9 hv
      obtain ⟨I3, rfl, rfl, hw⟩ := hv
      try dsimp only at hw
      refine am_E.run [] 2000 (show (True ∧ Q (none) (N, am_ts T, (am_u I3 66 26 ((I3 66 26) + 1)), L2, am_rs r)) from ?_)
      exact ⟨trivial, hK _ _ hw⟩
    · rw [if_neg hc] at hw ⊢
      exact ⟨trivial, hK _ _ hw⟩
  · rw [if_neg hc] at hw ⊢
    by_cases hc : (50 : Int32) ≤ (I 66 26)
    · rw [if_pos hc] at hw ⊢
      refine am_E.go ⟨am_kv_IL N T r _, s_212 hw (fun I4 L5 hk => ⟨I4, L5, rfl, rfl, hk⟩), ?_⟩
      intro v h9 hv
      obtain ⟨I4, L5, rfl, rfl, hw⟩ := hv
      try dsimp only at hw
      refine am_E.run [32] 2000 (show (if (I4 66 19) = 0 then (am_E S 221 (d + 3) 0 0 32 [.ref 66, .int x0, .int x1, .int x2] [.int x2, .int x1, .ref 66] (N, am_ts T, I4, L5, am_rs r) Q) else (True ∧ Q (none) (N, am_ts T, I4, L5, am_rs r))) from ?_)
      by_cases hc : (I4 66 19) = 0
      · rw [if_pos hc] at hw ⊢
        refine am_E.go ⟨am_kv_I N T L5 r _, s_222 hw (fun I6 hk => ⟨I6, rfl, rfl, hk⟩), ?_⟩
        intro v h9 hv
        obtain ⟨I6, rfl, rfl, hw⟩ := hv
        try dsimp only at hw
        refine am_E.run [] 2000 (show (True ∧ Q (none) (N, am_ts T, (am_u I6 66 26 ((I6 66 26) + 1)), L5, am_rs r)) from ?_)
        exact ⟨trivial, hK _ _ hw⟩
      · rw [if_neg hc] at hw ⊢
        exact ⟨trivial, hK _ _ hw⟩
    · rw [if_neg hc] at hw ⊢
      refine am_E.go ⟨am_kv_IL N T r _, s_212 hw (fun I7 L8 hk => ⟨I7, L8, rfl, rfl, hk⟩), ?_⟩
      intro v h9 hv
      obtain ⟨I7, L8, rfl, rfl, hw⟩ := hv
      try dsimp only at hw
      refine am_E.run [32] 2000 (show (if (I7 66 19) = 0 then (am_E S 221 (d + 3) 0 0 32 [.ref 66, .int x0, .int x1, .int x2] [.int x2, .int x1, .ref 66] (N, am_ts T, I7, L8, am_rs r) Q) else (True ∧ Q (none) (N, am_ts T, I7, L8, am_rs r))) from ?_)
      by_cases hc : (I7 66 19) = 0
      · rw [if_pos hc] at hw ⊢
        refine am_E.go ⟨am_kv_I N T L8 r _, s_222 hw (fun I9 hk => ⟨I9, rfl, rfl, hk⟩), ?_⟩
        intro v h9 hv
        obtain ⟨I9, rfl, rfl, hw⟩ := hv
        try dsimp only at hw
        refine am_E.run [] 2000 (show (True ∧ Q (none) (N, am_ts T, (am_u I9 66 26 ((I9 66 26) + 1)), L8, am_rs r)) from ?_)
        exact ⟨trivial, hK _ _ hw⟩
      · rw [if_neg hc] at hw ⊢
        exact ⟨trivial, hK _ _ hw⟩
/-- KeyKeepersModel.number(JJ)I -/
def w_223 (x0 : Int64) (x1 : Int64) (I : am_I) (L : am_J) (K : Int32 → am_I → am_J → Prop) : Prop :=
  if (I 66 16) = 2 then
    if (f_182 (L 66 17) x0 x1) = 0 then
      w_212 0 I L (fun I3 L4 =>
        K (Int64.toInt32 (L 66 17)) I3 L4)
    else
      w_212 1 I L (fun I5 L6 =>
        K (Int64.toInt32 (L 66 17)) I5 L6)
  else
    w_212 0 I L (fun I1 L2 =>
      K (Int64.toInt32 (L 66 17)) I1 L2)
set_option maxRecDepth 100000 in
theorem s_223 {S : am_S} {d : Nat} {N : Nat} {T : Nat → Nat × Nat} {I : am_I} {L : am_J} {r : Nat → Nat → Option Nat} {Q : am_Q} {x0 : Int64} {x1 : Int64} {K : Int32 → am_I → am_J → Prop} (hw : w_223 x0 x1 I L K) (hK : ∀ (q : Int32) (I1 : am_I) (L1 : am_J), K q I1 L1 → Q (some (.int q)) (N, am_ts T, I1, L1, am_rs r)) : am_E S 223 (d + 3) 0 0 0 [.ref 66, .long x0, am_jk, .long x1, am_jk, am_jk] [] (N, am_ts T, I, L, am_rs r) Q := by
  unfold w_223 at hw
  try dsimp only at hw
  refine am_E.run [22, 33] 2000 (show (if (I 66 16) = 2 then (am_E S 223 (d + 3) 0 0 22 [.ref 66, .long x0, am_jk, .long x1, am_jk, .int (Int64.toInt32 (L 66 17))] [.long x1, .long x0, .long (L 66 17), .ref 66] (N, am_ts T, I, L, am_rs r) Q) else (am_E S 223 (d + 3) 0 0 33 [.ref 66, .long x0, am_jk, .long x1, am_jk, .int (Int64.toInt32 (L 66 17))] [.int 0, .ref 66] (N, am_ts T, I, L, am_rs r) Q)) from ?_)
  by_cases hc : (I 66 16) = 2
  · rw [if_pos hc] at hw ⊢
    refine am_E.go ⟨fun v h9 => v = some (.int (f_182 (L 66 17) x0 x1)) ∧ h9 = (N, am_ts T, I, L, am_rs r), s_182 ⟨rfl, rfl⟩, ?_⟩
    intro v h9 hv
    obtain ⟨rfl, rfl⟩ := hv
    refine am_E.run [33] 2000 (show (if (f_182 (L 66 17) x0 x1) = 0 then (am_E S 223 (d + 3) 0 0 33 [.ref 66, .long x0, am_jk, .long x1, am_jk, .int (Int64.toInt32 (L 66 17))] [.int 0, .ref 66] (N, am_ts T, I, L, am_rs r) Q) else (am_E S 223 (d + 3) 0 0 33 [.ref 66, .long x0, am_jk, .long x1, am_jk, .int (Int64.toInt32 (L 66 17))] [.int 1, .ref 66] (N, am_ts T, I, L, am_rs r) Q)) from ?_)
    by_cases hc : (f_182 (L 66 17) x0 x1) = 0
    · rw [if_pos hc] at hw ⊢
      refine am_E.go ⟨am_kv_IL N T r _, s_212 hw (fun I3 L4 hk => ⟨I3, L4, rfl, rfl, hk⟩), ?_⟩
      intro v h9 hv
      obtain ⟨I3, L4, rfl, rfl, hw⟩ := hv
      try dsimp only at hw
      refine am_E.run [] 2000 (show (True ∧ Q (some (.int (Int64.toInt32 (L 66 17)))) (N, am_ts T, I3, L4, am_rs r)) from ?_)
      exact ⟨trivial, hK _ _ _ hw⟩
    · rw [if_neg hc] at hw ⊢
      refine am_E.go ⟨am_kv_IL N T r _, s_212 hw (fun I5 L6 hk => ⟨I5, L6, rfl, rfl, hk⟩), ?_⟩
      intro v h9 hv
      obtain ⟨I5, L6, rfl, rfl, hw⟩ := hv
      try dsimp only at hw
      refine am_E.run [] 2000 (show (True ∧ Q (some (.int (Int64.toInt32 (L 66 17)))) (N, am_ts T, I5, L6, am_rs r)) from ?_)
      exact ⟨trivial, hK _ _ _ hw⟩
  · rw [if_neg hc] at hw ⊢
    refine am_E.go ⟨am_kv_IL N T r _, s_212 hw (fun I1 L2 hk => ⟨I1, L2, rfl, rfl, hk⟩), ?_⟩
    intro v h9 hv
    obtain ⟨I1, L2, rfl, rfl, hw⟩ := hv
    try dsimp only at hw
    refine am_E.run [] 2000 (show (True ∧ Q (some (.int (Int64.toInt32 (L 66 17)))) (N, am_ts T, I1, L2, am_rs r)) from ?_)
    exact ⟨trivial, hK _ _ _ hw⟩
def wb_224_224 (v2 : Int32) (s1 : Int32) (I : am_I) (L : am_J) (K : Int32 → am_I → am_J → Prop) : Prop :=
  w_212 s1 I L (fun I3 L4 =>
    if (I3 66 19) = 0 then
      w_226 5 I3 (fun I5 =>
        w_215 v2 0 I5 (fun I6 =>
          K 1 I6 L4))
    else
      K 1 I3 L4)
set_option maxRecDepth 100000 in
theorem sb_224_224 {S : am_S} {d : Nat} {N : Nat} {T : Nat → Nat × Nat} {I : am_I} {L : am_J} {r : Nat → Nat → Option Nat} {Q : am_Q} {v2 : Int32} {s1 : Int32} {K : Int32 → am_I → am_J → Prop} (hw : wb_224_224 v2 s1 I L K) (hK : ∀ (q : Int32) (I1 : am_I) (L1 : am_J), K q I1 L1 → Q (some (.int q)) (N, am_ts T, I1, L1, am_rs r)) : am_E S 224 (d + 3) 0 0 224 [.ref 66, am_jk, .int v2, am_jk] [.int s1, .ref 66] (N, am_ts T, I, L, am_rs r) Q := by
  unfold wb_224_224 at hw
  try dsimp only at hw
  show (am_E S 224 (d + 3) 0 0 224 [.ref 66, am_jk, .int v2, am_jk] [.int s1, .ref 66] (N, am_ts T, I, L, am_rs r) Q)
  refine am_E.go ⟨am_kv_IL N T r _, s_212 hw (fun I3 L4 hk => ⟨I3, L4, rfl, rfl, hk⟩), ?_⟩
  intro v h9 hv
  obtain ⟨I3, L4, rfl, rfl, hw⟩ := hv
  try dsimp only at hw
  refine am_E.run [236] 2000 (show (if (I3 66 19) = 0 then (am_E S 224 (d + 3) 0 0 236 [.ref 66, am_jk, .int v2, am_jk] [.int 5, .ref 66] (N, am_ts T, I3, L4, am_rs r) Q) else (True ∧ Q (some (.int 1)) (N, am_ts T, I3, L4, am_rs r))) from ?_)
  by_cases hc : (I3 66 19) = 0
  · rw [if_pos hc] at hw ⊢
    refine am_E.go ⟨am_kv_I N T L4 r _, s_226 hw (fun I5 hk => ⟨I5, rfl, rfl, hk⟩), ?_⟩
    intro v h9 hv
    obtain ⟨I5, rfl, rfl, hw⟩ := hv
    try dsimp only at hw
    refine am_E.run [242] 2000 (show (am_E S 224 (d + 3) 0 0 242 [.ref 66, am_jk, .int v2, am_jk] [.int 0, .int v2, .ref 66] (N, am_ts T, I5, L4, am_rs r) Q) from ?_)
    refine am_E.go ⟨am_kv_I N T L4 r _, s_215 hw (fun I6 hk => ⟨I6, rfl, rfl, hk⟩), ?_⟩
    intro v h9 hv
    obtain ⟨I6, rfl, rfl, hw⟩ := hv
    try dsimp only at hw
    refine am_E.run [] 2000 (show (True ∧ Q (some (.int 1)) (N, am_ts T, I6, L4, am_rs r)) from ?_)
    exact ⟨trivial, hK _ _ _ hw⟩
  · rw [if_neg hc] at hw ⊢
    exact ⟨trivial, hK _ _ _ hw⟩
def wb_224_202 (s0 : Int32) (I : am_I) (L : am_J) (K : Int32 → am_I → am_J → Prop) : Prop :=
  if s0 = 27 then
    if (f_216 61 I L) = 0 then
      wb_224_224 s0 0 I L K
    else
      wb_224_224 s0 1 I L K
  else
    wb_224_224 s0 1 I L K
set_option maxRecDepth 100000 in
theorem sb_224_202 {S : am_S} {d : Nat} {N : Nat} {T : Nat → Nat × Nat} {I : am_I} {L : am_J} {r : Nat → Nat → Option Nat} {Q : am_Q} {s0 : Int32} {K : Int32 → am_I → am_J → Prop} (hw : wb_224_202 s0 I L K) (hK : ∀ (q : Int32) (I1 : am_I) (L1 : am_J), K q I1 L1 → Q (some (.int q)) (N, am_ts T, I1, L1, am_rs r)) : am_E S 224 (d + 3) 0 0 202 [.ref 66, am_jk, am_jk, am_jk] [.int s0] (N, am_ts T, I, L, am_rs r) Q := by
  unfold wb_224_202 at hw
  try dsimp only at hw
  refine am_E.run [213, 224] 2000 (show (if s0 = 27 then (am_E S 224 (d + 3) 0 0 213 [.ref 66, am_jk, .int s0, am_jk] [.int 61, .ref 66, .ref 66] (N, am_ts T, I, L, am_rs r) Q) else (am_E S 224 (d + 3) 0 0 224 [.ref 66, am_jk, .int s0, am_jk] [.int 1, .ref 66] (N, am_ts T, I, L, am_rs r) Q)) from ?_)
  by_cases hc : s0 = 27
  · rw [if_pos hc] at hw ⊢
    refine am_E.go ⟨fun v h9 => v = some (.int (f_216 61 I L)) ∧ h9 = (N, am_ts T, I, L, am_rs r), s_216 ⟨rfl, rfl⟩, ?_⟩
    intro v h9 hv
    obtain ⟨rfl, rfl⟩ := hv
    refine am_E.run [224] 2000 (show (if (f_216 61 I L) = 0 then (am_E S 224 (d + 3) 0 0 224 [.ref 66, am_jk, .int s0, am_jk] [.int 0, .ref 66] (N, am_ts T, I, L, am_rs r) Q) else (am_E S 224 (d + 3) 0 0 224 [.ref 66, am_jk, .int s0, am_jk] [.int 1, .ref 66] (N, am_ts T, I, L, am_rs r) Q)) from ?_)
    by_cases hc : (f_216 61 I L) = 0
    · rw [if_pos hc] at hw ⊢
      exact sb_224_224 hw hK
    · rw [if_neg hc] at hw ⊢
      exact sb_224_224 hw hK
  · rw [if_neg hc] at hw ⊢
    exact sb_224_224 hw hK
def wb_224_163 (I : am_I) (L : am_J) (K : Int32 → am_I → am_J → Prop) : Prop :=
  w_228 I (fun q2 =>
    if q2 = 0 then
      if (f_216 60 I L) = 0 then
        if (f_216 62 I L) = 0 then
          wb_224_202 27 I L K
        else
          wb_224_202 26 I L K
      else
        wb_224_202 25 I L K
    else
      K 2 I L)
set_option maxRecDepth 100000 in
theorem sb_224_163 {S : am_S} {d : Nat} {N : Nat} {T : Nat → Nat × Nat} {I : am_I} {L : am_J} {r : Nat → Nat → Option Nat} {Q : am_Q} {K : Int32 → am_I → am_J → Prop} (hw : wb_224_163 I L K) (hK : ∀ (q : Int32) (I1 : am_I) (L1 : am_J), K q I1 L1 → Q (some (.int q)) (N, am_ts T, I1, L1, am_rs r)) : am_E S 224 (d + 3) 0 0 163 [.ref 66, am_jk, am_jk, am_jk] [] (N, am_ts T, I, L, am_rs r) Q := by
  unfold wb_224_163 at hw
  try dsimp only at hw
  refine am_E.run [164] 2000 (show (am_E S 224 (d + 3) 0 0 164 [.ref 66, am_jk, am_jk, am_jk] [.ref 66] (N, am_ts T, I, L, am_rs r) Q) from ?_)
  refine am_E.go ⟨am_ki_ N T I L r _, s_228 hw (fun q2 hk => ⟨q2, rfl, rfl, hk⟩), ?_⟩
  intro v h9 hv
  obtain ⟨q2, rfl, rfl, hw⟩ := hv
  try dsimp only at hw
  refine am_E.run [175] 2000 (show (if q2 = 0 then (am_E S 224 (d + 3) 0 0 175 [.ref 66, am_jk, am_jk, am_jk] [.int 60, .ref 66] (N, am_ts T, I, L, am_rs r) Q) else (True ∧ Q (some (.int 2)) (N, am_ts T, I, L, am_rs r))) from ?_)
  by_cases hc : q2 = 0
  · rw [if_pos hc] at hw ⊢
    refine am_E.go ⟨fun v h9 => v = some (.int (f_216 60 I L)) ∧ h9 = (N, am_ts T, I, L, am_rs r), s_216 ⟨rfl, rfl⟩, ?_⟩
    intro v h9 hv
    obtain ⟨rfl, rfl⟩ := hv
    refine am_E.run [189, 202] 2000 (show (if (f_216 60 I L) = 0 then (am_E S 224 (d + 3) 0 0 189 [.ref 66, am_jk, am_jk, am_jk] [.int 62, .ref 66] (N, am_ts T, I, L, am_rs r) Q) else (am_E S 224 (d + 3) 0 0 202 [.ref 66, am_jk, am_jk, am_jk] [.int 25] (N, am_ts T, I, L, am_rs r) Q)) from ?_)
    by_cases hc : (f_216 60 I L) = 0
    · rw [if_pos hc] at hw ⊢
      refine am_E.go ⟨fun v h9 => v = some (.int (f_216 62 I L)) ∧ h9 = (N, am_ts T, I, L, am_rs r), s_216 ⟨rfl, rfl⟩, ?_⟩
      intro v h9 hv
      obtain ⟨rfl, rfl⟩ := hv
      refine am_E.run [202] 2000 (show (if (f_216 62 I L) = 0 then (am_E S 224 (d + 3) 0 0 202 [.ref 66, am_jk, am_jk, am_jk] [.int 27] (N, am_ts T, I, L, am_rs r) Q) else (am_E S 224 (d + 3) 0 0 202 [.ref 66, am_jk, am_jk, am_jk] [.int 26] (N, am_ts T, I, L, am_rs r) Q)) from ?_)
      by_cases hc : (f_216 62 I L) = 0
      · rw [if_pos hc] at hw ⊢
        exact sb_224_202 hw hK
      · rw [if_neg hc] at hw ⊢
        exact sb_224_202 hw hK
    · rw [if_neg hc] at hw ⊢
      exact sb_224_202 hw hK
  · rw [if_neg hc] at hw ⊢
    exact ⟨trivial, hK _ _ _ hw⟩
def wb_224_71 (v1 : Int32) (s0 : Int32) (I : am_I) (L : am_J) (K : Int32 → am_I → am_J → Prop) : Prop :=
  if s0 = (-1) then
    w_227 I (fun q1 =>
      if q1 = 32 then
        w_212 (f_216 93 I L) I L (fun I7 L8 =>
          if (I7 66 19) = 0 then
            w_226 5 I7 (fun I9 =>
              K 3 (am_u (am_u I9 66 29 ((I9 66 29) - 1)) 66 30 ((I9 66 30) - 1)) L8)
          else
            K 3 I7 L8)
      else
        if q1 = (-1) then
          if v1 = 0 then
            K 4 I L
          else
            wb_224_163 I L K
        else
          wb_224_163 I L K)
  else
    w_226 (f_225 s0) I (fun I10 =>
      w_215 s0 0 I10 (fun I11 =>
        w_207 I11 L (fun I12 L13 =>
          K 1 I12 L13)))
set_option maxRecDepth 100000 in
theorem sb_224_71 {S : am_S} {d : Nat} {N : Nat} {T : Nat → Nat × Nat} {I : am_I} {L : am_J} {r : Nat → Nat → Option Nat} {Q : am_Q} {v1 : Int32} {s0 : Int32} {K : Int32 → am_I → am_J → Prop} (hw : wb_224_71 v1 s0 I L K) (hK : ∀ (q : Int32) (I1 : am_I) (L1 : am_J), K q I1 L1 → Q (some (.int q)) (N, am_ts T, I1, L1, am_rs r)) : am_E S 224 (d + 3) 0 0 71 [.ref 66, .int v1, am_jk, am_jk] [.int s0] (N, am_ts T, I, L, am_rs r) Q := by
  unfold wb_224_71 at hw
  try dsimp only at hw
  refine am_E.run [79, 98] 2000 (show (if s0 = (-1) then (am_E S 224 (d + 3) 0 0 98 [.ref 66, .int v1, .int s0, am_jk] [.ref 66] (N, am_ts T, I, L, am_rs r) Q) else (am_E S 224 (d + 3) 0 0 79 [.ref 66, .int v1, .int s0, am_jk] [.int s0, .ref 66] (N, am_ts T, I, L, am_rs r) Q)) from ?_)
  by_cases hc : s0 = (-1)
  · rw [if_pos hc] at hw ⊢
    refine am_E.go ⟨am_ki_ N T I L r _, s_227 hw (fun q1 hk => ⟨q1, rfl, rfl, hk⟩), ?_⟩
    intro v h9 hv
    obtain ⟨q1, rfl, rfl, hw⟩ := hv
    try dsimp only at hw
    refine am_E.run [112, 163] 2000 (show (if q1 = 32 then (am_E S 224 (d + 3) 0 0 112 [.ref 66, .int v1, .int s0, .int q1] [.int 93, .ref 66, .ref 66] (N, am_ts T, I, L, am_rs r) Q) else (if q1 = (-1) then (if v1 = 0 then (True ∧ Q (some (.int 4)) (N, am_ts T, I, L, am_rs r)) else (am_E S 224 (d + 3) 0 0 163 [.ref 66, .int v1, .int s0, .int q1] [] (N, am_ts T, I, L, am_rs r) Q)) else (am_E S 224 (d + 3) 0 0 163 [.ref 66, .int v1, .int s0, .int q1] [] (N, am_ts T, I, L, am_rs r) Q))) from ?_)
    by_cases hc : q1 = 32
    · rw [if_pos hc] at hw ⊢
      refine am_E.go ⟨fun v h9 => v = some (.int (f_216 93 I L)) ∧ h9 = (N, am_ts T, I, L, am_rs r), s_216 ⟨rfl, rfl⟩, ?_⟩
      intro v h9 hv
      obtain ⟨rfl, rfl⟩ := hv
      show (am_E S 224 (d + 3) 0 0 115 [.ref 66, .int v1, .int s0, .int q1] [.int (f_216 93 I L), .ref 66] (N, am_ts T, I, L, am_rs r) Q)
      refine am_E.go ⟨am_kv_IL N T r _, s_212 hw (fun I7 L8 hk => ⟨I7, L8, rfl, rfl, hk⟩), ?_⟩
      intro v h9 hv
      obtain ⟨I7, L8, rfl, rfl, hw⟩ := hv
      try dsimp only at hw
      refine am_E.run [127] 2000 (show (if (I7 66 19) = 0 then (am_E S 224 (d + 3) 0 0 127 [.ref 66, .int v1, .int s0, .int q1] [.int 5, .ref 66] (N, am_ts T, I7, L8, am_rs r) Q) else (True ∧ Q (some (.int 3)) (N, am_ts T, I7, L8, am_rs r))) from ?_)
      by_cases hc : (I7 66 19) = 0
      · rw [if_pos hc] at hw ⊢
        refine am_E.go ⟨am_kv_I N T L8 r _, s_226 hw (fun I9 hk => ⟨I9, rfl, rfl, hk⟩), ?_⟩
        intro v h9 hv
        obtain ⟨I9, rfl, rfl, hw⟩ := hv
        try dsimp only at hw
        refine am_E.run [] 2000 (show (True ∧ Q (some (.int 3)) (N, am_ts T, (am_u (am_u I9 66 29 ((I9 66 29) - 1)) 66 30 ((I9 66 30) - 1)), L8, am_rs r)) from ?_)
        exact ⟨trivial, hK _ _ _ hw⟩
      · rw [if_neg hc] at hw ⊢
        exact ⟨trivial, hK _ _ _ hw⟩
    · rw [if_neg hc] at hw ⊢
      by_cases hc : q1 = (-1)
      · rw [if_pos hc] at hw ⊢
        by_cases hc : v1 = 0
        · rw [if_pos hc] at hw ⊢
          exact ⟨trivial, hK _ _ _ hw⟩
        · rw [if_neg hc] at hw ⊢
          exact am_E.junk (sb_224_163 hw hK) (am_le.cons (am_le.jk (am_le.jk (am_le.jk am_le.nil))))
      · rw [if_neg hc] at hw ⊢
        exact am_E.junk (sb_224_163 hw hK) (am_le.cons (am_le.jk (am_le.jk (am_le.jk am_le.nil))))
  · rw [if_neg hc] at hw ⊢
    refine am_E.go ⟨fun v h9 => v = some (.int (f_225 s0)) ∧ h9 = (N, am_ts T, I, L, am_rs r), s_225 ⟨rfl, rfl⟩, ?_⟩
    intro v h9 hv
    obtain ⟨rfl, rfl⟩ := hv
    show (am_E S 224 (d + 3) 0 0 82 [.ref 66, .int v1, .int s0, am_jk] [.int (f_225 s0), .ref 66] (N, am_ts T, I, L, am_rs r) Q)
    refine am_E.go ⟨am_kv_I N T L r _, s_226 hw (fun I10 hk => ⟨I10, rfl, rfl, hk⟩), ?_⟩
    intro v h9 hv
    obtain ⟨I10, rfl, rfl, hw⟩ := hv
    try dsimp only at hw
    refine am_E.run [88] 2000 (show (am_E S 224 (d + 3) 0 0 88 [.ref 66, .int v1, .int s0, am_jk] [.int 0, .int s0, .ref 66] (N, am_ts T, I10, L, am_rs r) Q) from ?_)
    refine am_E.go ⟨am_kv_I N T L r _, s_215 hw (fun I11 hk => ⟨I11, rfl, rfl, hk⟩), ?_⟩
    intro v h9 hv
    obtain ⟨I11, rfl, rfl, hw⟩ := hv
    try dsimp only at hw
    refine am_E.run [92] 2000 (show (am_E S 224 (d + 3) 0 0 92 [.ref 66, .int v1, .int s0, am_jk] [.ref 66] (N, am_ts T, I11, L, am_rs r) Q) from ?_)
    refine am_E.go ⟨am_kv_IL N T r _, s_207 hw (fun I12 L13 hk => ⟨I12, L13, rfl, rfl, hk⟩), ?_⟩
    intro v h9 hv
    obtain ⟨I12, L13, rfl, rfl, hw⟩ := hv
    try dsimp only at hw
    refine am_E.run [] 2000 (show (True ∧ Q (some (.int 1)) (N, am_ts T, I12, L13, am_rs r)) from ?_)
    exact ⟨trivial, hK _ _ _ hw⟩
/-- KeyKeepersModel.behindSum(Z)I -/
def w_224 (x0 : Int32) (I : am_I) (L : am_J) (K : Int32 → am_I → am_J → Prop) : Prop :=
  if (f_216 43 I L) = 0 then
    if (f_216 45 I L) = 0 then
      if (f_216 42 I L) = 0 then
        if (f_216 47 I L) = 0 then
          if (f_216 37 I L) = 0 then
            wb_224_71 x0 (-1) I L K
          else
            wb_224_71 x0 24 I L K
        else
          wb_224_71 x0 23 I L K
      else
        wb_224_71 x0 22 I L K
    else
      wb_224_71 x0 21 I L K
  else
    wb_224_71 x0 20 I L K
set_option maxRecDepth 100000 in
theorem s_224 {S : am_S} {d : Nat} {N : Nat} {T : Nat → Nat × Nat} {I : am_I} {L : am_J} {r : Nat → Nat → Option Nat} {Q : am_Q} {x0 : Int32} {K : Int32 → am_I → am_J → Prop} (hw : w_224 x0 I L K) (hK : ∀ (q : Int32) (I1 : am_I) (L1 : am_J), K q I1 L1 → Q (some (.int q)) (N, am_ts T, I1, L1, am_rs r)) : am_E S 224 (d + 3) 0 0 0 [.ref 66, .int x0, am_jk, am_jk] [] (N, am_ts T, I, L, am_rs r) Q := by
  unfold w_224 at hw
  try dsimp only at hw
  refine am_E.run [3] 2000 (show (am_E S 224 (d + 3) 0 0 3 [.ref 66, .int x0, am_jk, am_jk] [.int 43, .ref 66] (N, am_ts T, I, L, am_rs r) Q) from ?_)
  refine am_E.go ⟨fun v h9 => v = some (.int (f_216 43 I L)) ∧ h9 = (N, am_ts T, I, L, am_rs r), s_216 ⟨rfl, rfl⟩, ?_⟩
  intro v h9 hv
  obtain ⟨rfl, rfl⟩ := hv
  refine am_E.run [17, 71] 2000 (show (if (f_216 43 I L) = 0 then (am_E S 224 (d + 3) 0 0 17 [.ref 66, .int x0, am_jk, am_jk] [.int 45, .ref 66] (N, am_ts T, I, L, am_rs r) Q) else (am_E S 224 (d + 3) 0 0 71 [.ref 66, .int x0, am_jk, am_jk] [.int 20] (N, am_ts T, I, L, am_rs r) Q)) from ?_)
  by_cases hc : (f_216 43 I L) = 0
  · rw [if_pos hc] at hw ⊢
    refine am_E.go ⟨fun v h9 => v = some (.int (f_216 45 I L)) ∧ h9 = (N, am_ts T, I, L, am_rs r), s_216 ⟨rfl, rfl⟩, ?_⟩
    intro v h9 hv
    obtain ⟨rfl, rfl⟩ := hv
    refine am_E.run [31, 71] 2000 (show (if (f_216 45 I L) = 0 then (am_E S 224 (d + 3) 0 0 31 [.ref 66, .int x0, am_jk, am_jk] [.int 42, .ref 66] (N, am_ts T, I, L, am_rs r) Q) else (am_E S 224 (d + 3) 0 0 71 [.ref 66, .int x0, am_jk, am_jk] [.int 21] (N, am_ts T, I, L, am_rs r) Q)) from ?_)
    by_cases hc : (f_216 45 I L) = 0
    · rw [if_pos hc] at hw ⊢
      refine am_E.go ⟨fun v h9 => v = some (.int (f_216 42 I L)) ∧ h9 = (N, am_ts T, I, L, am_rs r), s_216 ⟨rfl, rfl⟩, ?_⟩
      intro v h9 hv
      obtain ⟨rfl, rfl⟩ := hv
      refine am_E.run [45, 71] 2000 (show (if (f_216 42 I L) = 0 then (am_E S 224 (d + 3) 0 0 45 [.ref 66, .int x0, am_jk, am_jk] [.int 47, .ref 66] (N, am_ts T, I, L, am_rs r) Q) else (am_E S 224 (d + 3) 0 0 71 [.ref 66, .int x0, am_jk, am_jk] [.int 22] (N, am_ts T, I, L, am_rs r) Q)) from ?_)
      by_cases hc : (f_216 42 I L) = 0
      · rw [if_pos hc] at hw ⊢
        refine am_E.go ⟨fun v h9 => v = some (.int (f_216 47 I L)) ∧ h9 = (N, am_ts T, I, L, am_rs r), s_216 ⟨rfl, rfl⟩, ?_⟩
        intro v h9 hv
        obtain ⟨rfl, rfl⟩ := hv
        refine am_E.run [59, 71] 2000 (show (if (f_216 47 I L) = 0 then (am_E S 224 (d + 3) 0 0 59 [.ref 66, .int x0, am_jk, am_jk] [.int 37, .ref 66] (N, am_ts T, I, L, am_rs r) Q) else (am_E S 224 (d + 3) 0 0 71 [.ref 66, .int x0, am_jk, am_jk] [.int 23] (N, am_ts T, I, L, am_rs r) Q)) from ?_)
        by_cases hc : (f_216 47 I L) = 0
        · rw [if_pos hc] at hw ⊢
          refine am_E.go ⟨fun v h9 => v = some (.int (f_216 37 I L)) ∧ h9 = (N, am_ts T, I, L, am_rs r), s_216 ⟨rfl, rfl⟩, ?_⟩
          intro v h9 hv
          obtain ⟨rfl, rfl⟩ := hv
          refine am_E.run [71] 2000 (show (if (f_216 37 I L) = 0 then (am_E S 224 (d + 3) 0 0 71 [.ref 66, .int x0, am_jk, am_jk] [.int (-1)] (N, am_ts T, I, L, am_rs r) Q) else (am_E S 224 (d + 3) 0 0 71 [.ref 66, .int x0, am_jk, am_jk] [.int 24] (N, am_ts T, I, L, am_rs r) Q)) from ?_)
          by_cases hc : (f_216 37 I L) = 0
          · rw [if_pos hc] at hw ⊢
            exact sb_224_71 hw hK
          · rw [if_neg hc] at hw ⊢
            exact sb_224_71 hw hK
        · rw [if_neg hc] at hw ⊢
          exact sb_224_71 hw hK
      · rw [if_neg hc] at hw ⊢
        exact sb_224_71 hw hK
    · rw [if_neg hc] at hw ⊢
      exact sb_224_71 hw hK
  · rw [if_neg hc] at hw ⊢
    exact sb_224_71 hw hK
