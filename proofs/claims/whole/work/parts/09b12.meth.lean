def lw_297_8 : Nat → Int32 → Int32 → am_I → (Int32 → am_I → Prop) → Prop
  | 0, _, _, _, _ => False
  | n + 1, v1, v2, I, E0 =>
    if (336 : Int32) ≤ v2 then
      E0 v2 I
    else
      ¬ (v2 < 0 ∨ 336 ≤ Int32.toNatClampNeg v2) ∧
      ¬ (v2 < 0 ∨ 378 ≤ Int32.toNatClampNeg v2) ∧
      lw_297_8 n v1 (v2 + 1) (am_u I 71 (Int32.toNatClampNeg v2) (I 73 (Int32.toNatClampNeg v2))) E0
set_option maxRecDepth 100000 in
theorem sl_297_8 {S : am_S} {d : Nat} {Q : am_Q} {N : Nat} {T : Nat → Nat × Nat} {L : am_J} {r : Nat → Nat → Option Nat} {E0 : Int32 → am_I → Prop} : ∀ (n : Nat) {v1 : Int32} {v2 : Int32} {I : am_I}, lw_297_8 n v1 v2 I E0 → (∀ (o2 : Int32) (I1 : am_I), E0 o2 I1 → am_E S 297 (d + 1) 0 0 33 [.ref 66, .int v1, .int o2] [] (N, am_ts T, I1, L, am_rs r) Q) → am_E S 297 (d + 1) 0 0 8 [.ref 66, .int v1, .int v2] [] (N, am_ts T, I, L, am_rs r) Q
  | 0, _, _, _, hw, _ => hw.elim
  | n + 1, v1, v2, I, hw, hE0 => by
    have ih := @sl_297_8 S d Q N T L r E0 n
    unfold lw_297_8 at hw
    try dsimp only at hw
    refine am_E.run [8, 33] 2000 (show (if (336 : Int32) ≤ v2 then (am_E S 297 (d + 1) 0 0 33 [.ref 66, .int v1, .int v2] [] (N, am_ts T, I, L, am_rs r) Q) else (if v2 < 0 ∨ 336 ≤ Int32.toNatClampNeg v2 then False else (if v2 < 0 ∨ 378 ≤ Int32.toNatClampNeg v2 then False else (am_E S 297 (d + 1) 0 0 8 [.ref 66, .int v1, .int (v2 + 1)] [] (N, am_ts T, (am_u I 71 (Int32.toNatClampNeg v2) (I 73 (Int32.toNatClampNeg v2))), L, am_rs r) Q)))) from ?_)
    by_cases hc : (336 : Int32) ≤ v2
    · rw [if_pos hc] at hw ⊢
      exact hE0 _ _ hw
    · rw [if_neg hc] at hw ⊢
      refine am_ifn hw.1 ?_
      replace hw := hw.2
      refine am_ifn hw.1 ?_
      replace hw := hw.2
      exact ih hw hE0
def lw_297_35 : Nat → Int32 → Int32 → am_I → (Int32 → am_I → Prop) → Prop
  | 0, _, _, _, _ => False
  | n + 1, v1, v2, I, E0 =>
    if (16 : Int32) ≤ v2 then
      E0 v2 I
    else
      ¬ (v2 < 0 ∨ 16 ≤ Int32.toNatClampNeg v2) ∧
      ¬ (v2 < 0 ∨ 16 ≤ Int32.toNatClampNeg v2) ∧
      lw_297_35 n v1 (v2 + 1) (am_u I 72 (Int32.toNatClampNeg v2) (I 74 (Int32.toNatClampNeg v2))) E0
set_option maxRecDepth 100000 in
theorem sl_297_35 {S : am_S} {d : Nat} {Q : am_Q} {N : Nat} {T : Nat → Nat × Nat} {L : am_J} {r : Nat → Nat → Option Nat} {E0 : Int32 → am_I → Prop} : ∀ (n : Nat) {v1 : Int32} {v2 : Int32} {I : am_I}, lw_297_35 n v1 v2 I E0 → (∀ (o2 : Int32) (I1 : am_I), E0 o2 I1 → am_E S 297 (d + 1) 0 0 59 [.ref 66, .int v1, .int o2] [] (N, am_ts T, I1, L, am_rs r) Q) → am_E S 297 (d + 1) 0 0 35 [.ref 66, .int v1, .int v2] [] (N, am_ts T, I, L, am_rs r) Q
  | 0, _, _, _, hw, _ => hw.elim
  | n + 1, v1, v2, I, hw, hE0 => by
    have ih := @sl_297_35 S d Q N T L r E0 n
    unfold lw_297_35 at hw
    try dsimp only at hw
    refine am_E.run [35, 59] 2000 (show (if (16 : Int32) ≤ v2 then (am_E S 297 (d + 1) 0 0 59 [.ref 66, .int v1, .int v2] [] (N, am_ts T, I, L, am_rs r) Q) else (if v2 < 0 ∨ 16 ≤ Int32.toNatClampNeg v2 then False else (if v2 < 0 ∨ 16 ≤ Int32.toNatClampNeg v2 then False else (am_E S 297 (d + 1) 0 0 35 [.ref 66, .int v1, .int (v2 + 1)] [] (N, am_ts T, (am_u I 72 (Int32.toNatClampNeg v2) (I 74 (Int32.toNatClampNeg v2))), L, am_rs r) Q)))) from ?_)
    by_cases hc : (16 : Int32) ≤ v2
    · rw [if_pos hc] at hw ⊢
      exact hE0 _ _ hw
    · rw [if_neg hc] at hw ⊢
      refine am_ifn hw.1 ?_
      replace hw := hw.2
      refine am_ifn hw.1 ?_
      replace hw := hw.2
      exact ih hw hE0
/-- KeyKeepersModel.giveBack(I)V -/
def w_297 (x0 : Int32) (I : am_I) (K : am_I → Prop) : Prop :=
  w_180 17 I (fun I1 =>
    ∃ n8, lw_297_8 n8 x0 0 I1 (fun o2 I3 =>
      ∃ n35, lw_297_35 n35 x0 0 I3 (fun o4 I5 =>
        K (am_u I5 66 8 x0))))
set_option maxRecDepth 100000 in
theorem s_297 {S : am_S} {d : Nat} {N : Nat} {T : Nat → Nat × Nat} {I : am_I} {L : am_J} {r : Nat → Nat → Option Nat} {Q : am_Q} {x0 : Int32} {K : am_I → Prop} (hw : w_297 x0 I K) (hK : ∀ (I1 : am_I), K I1 → Q (none) (N, am_ts T, I1, L, am_rs r)) : am_E S 297 (d + 1) 0 0 0 [.ref 66, .int x0, am_jk] [] (N, am_ts T, I, L, am_rs r) Q := by
  unfold w_297 at hw
  try dsimp only at hw
  refine am_E.run [3] 2000 (show (am_E S 297 (d + 1) 0 0 3 [.ref 66, .int x0, am_jk] [.int 17, .ref 66] (N, am_ts T, I, L, am_rs r) Q) from ?_)
  refine am_E.go ⟨am_kv_I N T L r _, s_180 hw (fun I1 hk => ⟨I1, rfl, rfl, hk⟩), ?_⟩
  intro v h9 hv
  obtain ⟨I1, rfl, rfl, hw⟩ := hv
  try dsimp only at hw
  refine am_E.run [8] 2000 (show (am_E S 297 (d + 1) 0 0 8 [.ref 66, .int x0, .int 0] [] (N, am_ts T, I1, L, am_rs r) Q) from ?_)
  obtain ⟨n8, hw⟩ := hw
  refine sl_297_8 n8 hw (fun o2 I3 hw => ?_)
  · try dsimp only at hw
    refine am_E.run [35] 2000 (show (am_E S 297 (d + 1) 0 0 35 [.ref 66, .int x0, .int 0] [] (N, am_ts T, I3, L, am_rs r) Q) from ?_)
    obtain ⟨n35, hw⟩ := hw
    refine sl_297_35 n35 hw (fun o4 I5 hw => ?_)
    · try dsimp only at hw
      refine am_E.run [] 2000 (show (True ∧ Q (none) (N, am_ts T, (am_u I5 66 8 x0), L, am_rs r)) from ?_)
      exact ⟨trivial, hK _ hw⟩
/-- KeyKeepersModel.stopped()I -/
def w_298 (I : am_I) (K : Int32 → am_I → Prop) : Prop :=
  K (I 66 56) (am_u I 66 0 0)
set_option maxRecDepth 100000 in
theorem s_298 {S : am_S} {d : Nat} {N : Nat} {T : Nat → Nat × Nat} {I : am_I} {L : am_J} {r : Nat → Nat → Option Nat} {Q : am_Q} {K : Int32 → am_I → Prop} (hw : w_298 I K) (hK : ∀ (q : Int32) (I1 : am_I), K q I1 → Q (some (.int q)) (N, am_ts T, I1, L, am_rs r)) : am_E S 298 (d + 0) 0 0 0 [.ref 66] [] (N, am_ts T, I, L, am_rs r) Q := by
  unfold w_298 at hw
  try dsimp only at hw
  refine am_E.run [] 2000 (show (True ∧ Q (some (.int (I 66 56))) (N, am_ts T, (am_u I 66 0 0), L, am_rs r)) from ?_)
  exact ⟨trivial, hK _ _ hw⟩
/-- KeyKeepersModel.draw(I)I -/
def w_300 (x0 : Int32) (L : am_J) (K : Int32 → am_J → Prop) : Prop :=
  ¬ ((Int32.toInt64 x0) = 0) ∧
  K (Int64.toInt32 (((((L 66 58) * 1103) + 12345) - (((L 66 58) * 1103) + 12345) / 1000003 * 1000003) - ((((L 66 58) * 1103) + 12345) - (((L 66 58) * 1103) + 12345) / 1000003 * 1000003) / (Int32.toInt64 x0) * (Int32.toInt64 x0))) (am_u L 66 58 ((((L 66 58) * 1103) + 12345) - (((L 66 58) * 1103) + 12345) / 1000003 * 1000003))
set_option maxRecDepth 100000 in
theorem s_300 {S : am_S} {d : Nat} {N : Nat} {T : Nat → Nat × Nat} {I : am_I} {L : am_J} {r : Nat → Nat → Option Nat} {Q : am_Q} {x0 : Int32} {K : Int32 → am_J → Prop} (hw : w_300 x0 L K) (hK : ∀ (q : Int32) (L1 : am_J), K q L1 → Q (some (.int q)) (N, am_ts T, I, L1, am_rs r)) : am_E S 300 (d + 0) 0 0 0 [.ref 66, .int x0] [] (N, am_ts T, I, L, am_rs r) Q := by
  unfold w_300 at hw
  try dsimp only at hw
  refine am_E.run [] 2000 (show (if (Int32.toInt64 x0) = 0 then False else (True ∧ Q (some (.int (Int64.toInt32 (((((L 66 58) * 1103) + 12345) - (((L 66 58) * 1103) + 12345) / 1000003 * 1000003) - ((((L 66 58) * 1103) + 12345) - (((L 66 58) * 1103) + 12345) / 1000003 * 1000003) / (Int32.toInt64 x0) * (Int32.toInt64 x0))))) (N, am_ts T, I, (am_u L 66 58 ((((L 66 58) * 1103) + 12345) - (((L 66 58) * 1103) + 12345) / 1000003 * 1000003)), am_rs r))) from ?_)
  refine am_ifn hw.1 ?_
  replace hw := hw.2
  exact ⟨trivial, hK _ _ hw⟩
/-- KeyKeepersModel.drawn(II)I -/
def w_301 (x0 : Int32) (x1 : Int32) (I : am_I) (K : Int32 → am_I → Prop) : Prop :=
  if (I 66 61) = (-1) then
    K (-1) (am_u I 66 0 0)
  else
    if (f_182 (Int32.toInt64 x1) 0 1) = 0 then
      K (-1) (am_u I 66 0 0)
    else
      if x1 = 0 then
        if (f_182 (Int32.toInt64 x0) 0 ((Int32.toInt64 (I 66 61)) - 1)) = 0 then
          K (-1) (am_u I 66 0 0)
        else
          if x1 = 0 then
            ¬ (x0 < 0 ∨ 8 ≤ Int32.toNatClampNeg x0) ∧
            K (I 98 (Int32.toNatClampNeg x0)) (am_u I 66 0 0)
          else
            K (I 66 60) (am_u I 66 0 0)
      else
        if x1 = 0 then
          ¬ (x0 < 0 ∨ 8 ≤ Int32.toNatClampNeg x0) ∧
          K (I 98 (Int32.toNatClampNeg x0)) (am_u I 66 0 0)
        else
          K (I 66 60) (am_u I 66 0 0)
set_option maxRecDepth 100000 in
theorem s_301 {S : am_S} {d : Nat} {N : Nat} {T : Nat → Nat × Nat} {I : am_I} {L : am_J} {r : Nat → Nat → Option Nat} {Q : am_Q} {x0 : Int32} {x1 : Int32} {K : Int32 → am_I → Prop} (hw : w_301 x0 x1 I K) (hK : ∀ (q : Int32) (I1 : am_I), K q I1 → Q (some (.int q)) (N, am_ts T, I1, L, am_rs r)) : am_E S 301 (d + 1) 0 0 0 [.ref 66, .int x0, .int x1] [] (N, am_ts T, I, L, am_rs r) Q := by
  unfold w_301 at hw
  try dsimp only at hw
  refine am_E.run [17] 2000 (show (if (I 66 61) = (-1) then (True ∧ Q (some (.int (-1))) (N, am_ts T, (am_u I 66 0 0), L, am_rs r)) else (am_E S 301 (d + 1) 0 0 17 [.ref 66, .int x0, .int x1] [.long 1, .long 0, .long (Int32.toInt64 x1)] (N, am_ts T, (am_u I 66 0 0), L, am_rs r) Q)) from ?_)
  by_cases hc : (I 66 61) = (-1)
  · rw [if_pos hc] at hw ⊢
    exact ⟨trivial, hK _ _ hw⟩
  · rw [if_neg hc] at hw ⊢
    refine am_E.go ⟨fun v h9 => v = some (.int (f_182 (Int32.toInt64 x1) 0 1)) ∧ h9 = (N, am_ts T, (am_u I 66 0 0), L, am_rs r), s_182 ⟨rfl, rfl⟩, ?_⟩
    intro v h9 hv
    obtain ⟨rfl, rfl⟩ := hv
    refine am_E.run [37] 2000 (show (if (f_182 (Int32.toInt64 x1) 0 1) = 0 then (True ∧ Q (some (.int (-1))) (N, am_ts T, (am_u I 66 0 0), L, am_rs r)) else (if x1 = 0 then (am_E S 301 (d + 1) 0 0 37 [.ref 66, .int x0, .int x1] [.long ((Int32.toInt64 (I 66 61)) - 1), .long 0, .long (Int32.toInt64 x0)] (N, am_ts T, (am_u I 66 0 0), L, am_rs r) Q) else (if x1 = 0 then (if x0 < 0 ∨ 8 ≤ Int32.toNatClampNeg x0 then False else (True ∧ Q (some (.int (I 98 (Int32.toNatClampNeg x0)))) (N, am_ts T, (am_u I 66 0 0), L, am_rs r))) else (True ∧ Q (some (.int (I 66 60))) (N, am_ts T, (am_u I 66 0 0), L, am_rs r))))) from ?_)
    by_cases hc : (f_182 (Int32.toInt64 x1) 0 1) = 0
    · rw [if_pos hc] at hw ⊢
      exact ⟨trivial, hK _ _ hw⟩
    · rw [if_neg hc] at hw ⊢
      by_cases hc : x1 = 0
      · rw [if_pos hc] at hw ⊢
        refine am_E.go ⟨fun v h9 => v = some (.int (f_182 (Int32.toInt64 x0) 0 ((Int32.toInt64 (I 66 61)) - 1))) ∧ h9 = (N, am_ts T, (am_u I 66 0 0), L, am_rs r), s_182 ⟨rfl, rfl⟩, ?_⟩
        intro v h9 hv
        obtain ⟨rfl, rfl⟩ := hv
        refine am_E.run [] 2000 (show (if (f_182 (Int32.toInt64 x0) 0 ((Int32.toInt64 (I 66 61)) - 1)) = 0 then (True ∧ Q (some (.int (-1))) (N, am_ts T, (am_u I 66 0 0), L, am_rs r)) else (if x1 = 0 then (if x0 < 0 ∨ 8 ≤ Int32.toNatClampNeg x0 then False else (True ∧ Q (some (.int (I 98 (Int32.toNatClampNeg x0)))) (N, am_ts T, (am_u I 66 0 0), L, am_rs r))) else (True ∧ Q (some (.int (I 66 60))) (N, am_ts T, (am_u I 66 0 0), L, am_rs r)))) from ?_)
        by_cases hc : (f_182 (Int32.toInt64 x0) 0 ((Int32.toInt64 (I 66 61)) - 1)) = 0
        · rw [if_pos hc] at hw ⊢
          exact ⟨trivial, hK _ _ hw⟩
        · rw [if_neg hc] at hw ⊢
          by_cases hc : x1 = 0
          · rw [if_pos hc] at hw ⊢
            refine am_ifn hw.1 ?_
            replace hw := hw.2
            exact ⟨trivial, hK _ _ hw⟩
          · rw [if_neg hc] at hw ⊢
            exact ⟨trivial, hK _ _ hw⟩
      · rw [if_neg hc] at hw ⊢
        by_cases hc : x1 = 0
        · rw [if_pos hc] at hw ⊢
          refine am_ifn hw.1 ?_
          replace hw := hw.2
          exact ⟨trivial, hK _ _ hw⟩
        · rw [if_neg hc] at hw ⊢
          exact ⟨trivial, hK _ _ hw⟩
/-- KeyKeepersModel.count(I)I -/
def w_302 (x0 : Int32) (I : am_I) (K : Int32 → am_I → Prop) : Prop :=
  if x0 = 0 then
    K (I 68 0) (am_u I 66 0 0)
  else
  if x0 = 1 then
    K (I 68 1) (am_u I 66 0 0)
  else
  if x0 = 2 then
    w_263 (am_u I 66 0 0) (fun q1 =>
      K q1 (am_u I 66 0 0))
  else
  if x0 = 3 then
    K (I 68 2) (am_u I 66 0 0)
  else
  if x0 = 4 then
    K (I 68 3) (am_u I 66 0 0)
  else
  if x0 = 5 then
    K (I 66 8) (am_u I 66 0 0)
  else
  if x0 = 6 then
    K (I 66 13) (am_u I 66 0 0)
  else
  if x0 = 7 then
    K (I 67 1) (am_u I 66 0 0)
  else
  if x0 = 8 then
    K (I 67 2) (am_u I 66 0 0)
  else
  if x0 = 9 then
    K (I 67 3) (am_u I 66 0 0)
  else
  if x0 = 10 then
    K (I 67 5) (am_u I 66 0 0)
  else
  if x0 = 11 then
    K (I 67 6) (am_u I 66 0 0)
  else
  if x0 = 12 then
    K (I 68 4) (am_u I 66 0 0)
  else
  if x0 = 13 then
    K (I 68 9) (am_u I 66 0 0)
  else
  if (f_182 (Int32.toInt64 x0) 14 17) = 0 then
    K (-1) (am_u I 66 0 0)
  else
    ¬ (((5 + x0) - 14) < 0 ∨ 5510 ≤ Int32.toNatClampNeg ((5 + x0) - 14)) ∧
    K (I 68 (Int32.toNatClampNeg ((5 + x0) - 14))) (am_u I 66 0 0)
set_option maxRecDepth 100000 in
theorem s_302 {S : am_S} {d : Nat} {N : Nat} {T : Nat → Nat × Nat} {I : am_I} {L : am_J} {r : Nat → Nat → Option Nat} {Q : am_Q} {x0 : Int32} {K : Int32 → am_I → Prop} (hw : w_302 x0 I K) (hK : ∀ (q : Int32) (I1 : am_I), K q I1 → Q (some (.int q)) (N, am_ts T, I1, L, am_rs r)) : am_E S 302 (d + 1) 0 0 0 [.ref 66, .int x0] [] (N, am_ts T, I, L, am_rs r) Q := by
  unfold w_302 at hw
  try dsimp only at hw
  refine am_E.run [6] 2000 (show (am_E S 302 (d + 1) 0 0 6 [.ref 66, .int x0] [.int x0] (N, am_ts T, (am_u I 66 0 0), L, am_rs r) Q) from ?_)
  by_cases hc0 : x0 = 0
  · rw [if_pos hc0] at hw
    refine am_E.swap (k := 0) hc0 ?_
    refine am_E.go (show (am_E S 302 (d + 1) 0 0 76 [.ref 66, .int x0] [] (N, am_ts T, (am_u I 66 0 0), L, am_rs r) Q) from ?_)
    refine am_E.run [] 2000 (show (True ∧ Q (some (.int (I 68 0))) (N, am_ts T, (am_u I 66 0 0), L, am_rs r)) from ?_)
    exact ⟨trivial, hK _ _ hw⟩
  rw [if_neg hc0] at hw
  by_cases hc1 : x0 = 1
  · rw [if_pos hc1] at hw
    refine am_E.swap (k := 1) hc1 ?_
    refine am_E.go (show (am_E S 302 (d + 1) 0 0 83 [.ref 66, .int x0] [] (N, am_ts T, (am_u I 66 0 0), L, am_rs r) Q) from ?_)
    refine am_E.run [] 2000 (show (True ∧ Q (some (.int (I 68 1))) (N, am_ts T, (am_u I 66 0 0), L, am_rs r)) from ?_)
    exact ⟨trivial, hK _ _ hw⟩
  rw [if_neg hc1] at hw
  by_cases hc2 : x0 = 2
  · rw [if_pos hc2] at hw
    refine am_E.swap (k := 2) hc2 ?_
    refine am_E.go (show (am_E S 302 (d + 1) 0 0 90 [.ref 66, .int x0] [] (N, am_ts T, (am_u I 66 0 0), L, am_rs r) Q) from ?_)
    refine am_E.run [91] 2000 (show (am_E S 302 (d + 1) 0 0 91 [.ref 66, .int x0] [.ref 66] (N, am_ts T, (am_u I 66 0 0), L, am_rs r) Q) from ?_)
    refine am_E.go ⟨am_ki_ N T (am_u I 66 0 0) L r _, s_263 hw (fun q1 hk => ⟨q1, rfl, rfl, hk⟩), ?_⟩
    intro v h9 hv
    obtain ⟨q1, rfl, rfl, hw⟩ := hv
    try dsimp only at hw
    refine am_E.run [] 2000 (show (True ∧ Q (some (.int q1)) (N, am_ts T, (am_u I 66 0 0), L, am_rs r)) from ?_)
    exact ⟨trivial, hK _ _ hw⟩
  rw [if_neg hc2] at hw
  by_cases hc3 : x0 = 3
  · rw [if_pos hc3] at hw
    refine am_E.swap (k := 3) hc3 ?_
    refine am_E.go (show (am_E S 302 (d + 1) 0 0 95 [.ref 66, .int x0] [] (N, am_ts T, (am_u I 66 0 0), L, am_rs r) Q) from ?_)
    refine am_E.run [] 2000 (show (True ∧ Q (some (.int (I 68 2))) (N, am_ts T, (am_u I 66 0 0), L, am_rs r)) from ?_)
    exact ⟨trivial, hK _ _ hw⟩
  rw [if_neg hc3] at hw
  by_cases hc4 : x0 = 4
  · rw [if_pos hc4] at hw
    refine am_E.swap (k := 4) hc4 ?_
    refine am_E.go (show (am_E S 302 (d + 1) 0 0 102 [.ref 66, .int x0] [] (N, am_ts T, (am_u I 66 0 0), L, am_rs r) Q) from ?_)
    refine am_E.run [] 2000 (show (True ∧ Q (some (.int (I 68 3))) (N, am_ts T, (am_u I 66 0 0), L, am_rs r)) from ?_)
    exact ⟨trivial, hK _ _ hw⟩
  rw [if_neg hc4] at hw
  by_cases hc5 : x0 = 5
  · rw [if_pos hc5] at hw
    refine am_E.swap (k := 5) hc5 ?_
    refine am_E.go (show (am_E S 302 (d + 1) 0 0 109 [.ref 66, .int x0] [] (N, am_ts T, (am_u I 66 0 0), L, am_rs r) Q) from ?_)
    refine am_E.run [] 2000 (show (True ∧ Q (some (.int (I 66 8))) (N, am_ts T, (am_u I 66 0 0), L, am_rs r)) from ?_)
    exact ⟨trivial, hK _ _ hw⟩
  rw [if_neg hc5] at hw
  by_cases hc6 : x0 = 6
  · rw [if_pos hc6] at hw
    refine am_E.swap (k := 6) hc6 ?_
    refine am_E.go (show (am_E S 302 (d + 1) 0 0 114 [.ref 66, .int x0] [] (N, am_ts T, (am_u I 66 0 0), L, am_rs r) Q) from ?_)
    refine am_E.run [] 2000 (show (True ∧ Q (some (.int (I 66 13))) (N, am_ts T, (am_u I 66 0 0), L, am_rs r)) from ?_)
    exact ⟨trivial, hK _ _ hw⟩
  rw [if_neg hc6] at hw
  by_cases hc7 : x0 = 7
  · rw [if_pos hc7] at hw
    refine am_E.swap (k := 7) hc7 ?_
    refine am_E.go (show (am_E S 302 (d + 1) 0 0 119 [.ref 66, .int x0] [] (N, am_ts T, (am_u I 66 0 0), L, am_rs r) Q) from ?_)
    refine am_E.run [] 2000 (show (True ∧ Q (some (.int (I 67 1))) (N, am_ts T, (am_u I 66 0 0), L, am_rs r)) from ?_)
    exact ⟨trivial, hK _ _ hw⟩
  rw [if_neg hc7] at hw
  by_cases hc8 : x0 = 8
  · rw [if_pos hc8] at hw
    refine am_E.swap (k := 8) hc8 ?_
    refine am_E.go (show (am_E S 302 (d + 1) 0 0 126 [.ref 66, .int x0] [] (N, am_ts T, (am_u I 66 0 0), L, am_rs r) Q) from ?_)
    refine am_E.run [] 2000 (show (True ∧ Q (some (.int (I 67 2))) (N, am_ts T, (am_u I 66 0 0), L, am_rs r)) from ?_)
    exact ⟨trivial, hK _ _ hw⟩
  rw [if_neg hc8] at hw
  by_cases hc9 : x0 = 9
  · rw [if_pos hc9] at hw
    refine am_E.swap (k := 9) hc9 ?_
    refine am_E.go (show (am_E S 302 (d + 1) 0 0 133 [.ref 66, .int x0] [] (N, am_ts T, (am_u I 66 0 0), L, am_rs r) Q) from ?_)
    refine am_E.run [] 2000 (show (True ∧ Q (some (.int (I 67 3))) (N, am_ts T, (am_u I 66 0 0), L, am_rs r)) from ?_)
    exact ⟨trivial, hK _ _ hw⟩
  rw [if_neg hc9] at hw
  by_cases hc10 : x0 = 10
  · rw [if_pos hc10] at hw
    refine am_E.swap (k := 10) hc10 ?_
    refine am_E.go (show (am_E S 302 (d + 1) 0 0 140 [.ref 66, .int x0] [] (N, am_ts T, (am_u I 66 0 0), L, am_rs r) Q) from ?_)
    refine am_E.run [] 2000 (show (True ∧ Q (some (.int (I 67 5))) (N, am_ts T, (am_u I 66 0 0), L, am_rs r)) from ?_)
    exact ⟨trivial, hK _ _ hw⟩
  rw [if_neg hc10] at hw
  by_cases hc11 : x0 = 11
  · rw [if_pos hc11] at hw
    refine am_E.swap (k := 11) hc11 ?_
    refine am_E.go (show (am_E S 302 (d + 1) 0 0 147 [.ref 66, .int x0] [] (N, am_ts T, (am_u I 66 0 0), L, am_rs r) Q) from ?_)
    refine am_E.run [] 2000 (show (True ∧ Q (some (.int (I 67 6))) (N, am_ts T, (am_u I 66 0 0), L, am_rs r)) from ?_)
    exact ⟨trivial, hK _ _ hw⟩
  rw [if_neg hc11] at hw
  by_cases hc12 : x0 = 12
  · rw [if_pos hc12] at hw
    refine am_E.swap (k := 12) hc12 ?_
    refine am_E.go (show (am_E S 302 (d + 1) 0 0 155 [.ref 66, .int x0] [] (N, am_ts T, (am_u I 66 0 0), L, am_rs r) Q) from ?_)
    refine am_E.run [] 2000 (show (True ∧ Q (some (.int (I 68 4))) (N, am_ts T, (am_u I 66 0 0), L, am_rs r)) from ?_)
    exact ⟨trivial, hK _ _ hw⟩
  rw [if_neg hc12] at hw
  by_cases hc13 : x0 = 13
  · rw [if_pos hc13] at hw
    refine am_E.swap (k := 13) hc13 ?_
    refine am_E.go (show (am_E S 302 (d + 1) 0 0 162 [.ref 66, .int x0] [] (N, am_ts T, (am_u I 66 0 0), L, am_rs r) Q) from ?_)
    refine am_E.run [] 2000 (show (True ∧ Q (some (.int (I 68 9))) (N, am_ts T, (am_u I 66 0 0), L, am_rs r)) from ?_)
    exact ⟨trivial, hK _ _ hw⟩
  rw [if_neg hc13] at hw
  have hd : (x0).toInt < 0 ∨ 13 < (x0).toInt := by
    have g0 := am_ine hc0
    have g1 := am_ine hc1
    have g2 := am_ine hc2
    have g3 := am_ine hc3
    have g4 := am_ine hc4
    have g5 := am_ine hc5
    have g6 := am_ine hc6
    have g7 := am_ine hc7
    have g8 := am_ine hc8
    have g9 := am_ine hc9
    have g10 := am_ine hc10
    have g11 := am_ine hc11
    have g12 := am_ine hc12
    have g13 := am_ine hc13
    change (x0).toInt ≠ 0 at g0
    change (x0).toInt ≠ 1 at g1
    change (x0).toInt ≠ 2 at g2
    change (x0).toInt ≠ 3 at g3
    change (x0).toInt ≠ 4 at g4
    change (x0).toInt ≠ 5 at g5
    change (x0).toInt ≠ 6 at g6
    change (x0).toInt ≠ 7 at g7
    change (x0).toInt ≠ 8 at g8
    change (x0).toInt ≠ 9 at g9
    change (x0).toInt ≠ 10 at g10
    change (x0).toInt ≠ 11 at g11
    change (x0).toInt ≠ 12 at g12
    change (x0).toInt ≠ 13 at g13
    omega
  refine am_E.go (show (if (x0).toInt < 0 ∨ 13 < (x0).toInt then (am_E S 302 (d + 1) 0 0 170 [.ref 66, .int x0] [] (N, am_ts T, (am_u I 66 0 0), L, am_rs r) Q) else _) from ?_)
  rw [if_pos hd]
  refine am_E.run [178] 2000 (show (am_E S 302 (d + 1) 0 0 178 [.ref 66, .int x0] [.long 17, .long 14, .long (Int32.toInt64 x0)] (N, am_ts T, (am_u I 66 0 0), L, am_rs r) Q) from ?_)
  refine am_E.go ⟨fun v h9 => v = some (.int (f_182 (Int32.toInt64 x0) 14 17)) ∧ h9 = (N, am_ts T, (am_u I 66 0 0), L, am_rs r), s_182 ⟨rfl, rfl⟩, ?_⟩
  intro v h9 hv
  obtain ⟨rfl, rfl⟩ := hv
  refine am_E.run [] 2000 (show (if (f_182 (Int32.toInt64 x0) 14 17) = 0 then (True ∧ Q (some (.int (-1))) (N, am_ts T, (am_u I 66 0 0), L, am_rs r)) else (if ((5 + x0) - 14) < 0 ∨ 5510 ≤ Int32.toNatClampNeg ((5 + x0) - 14) then False else (True ∧ Q (some (.int (I 68 (Int32.toNatClampNeg ((5 + x0) - 14))))) (N, am_ts T, (am_u I 66 0 0), L, am_rs r)))) from ?_)
  by_cases hc : (f_182 (Int32.toInt64 x0) 14 17) = 0
  · rw [if_pos hc] at hw ⊢
    exact ⟨trivial, hK _ _ hw⟩
  · rw [if_neg hc] at hw ⊢
    refine am_ifn hw.1 ?_
    replace hw := hw.2
    exact ⟨trivial, hK _ _ hw⟩
/-- KeyKeepersModel.status()I -/
def w_303 (I : am_I) (K : Int32 → am_I → Prop) : Prop :=
  K (I 66 1) (am_u I 66 0 0)
set_option maxRecDepth 100000 in
theorem s_303 {S : am_S} {d : Nat} {N : Nat} {T : Nat → Nat × Nat} {I : am_I} {L : am_J} {r : Nat → Nat → Option Nat} {Q : am_Q} {K : Int32 → am_I → Prop} (hw : w_303 I K) (hK : ∀ (q : Int32) (I1 : am_I), K q I1 → Q (some (.int q)) (N, am_ts T, I1, L, am_rs r)) : am_E S 303 (d + 0) 0 0 0 [.ref 66] [] (N, am_ts T, I, L, am_rs r) Q := by
  unfold w_303 at hw
  try dsimp only at hw
  refine am_E.run [] 2000 (show (True ∧ Q (some (.int (I 66 1))) (N, am_ts T, (am_u I 66 0 0), L, am_rs r)) from ?_)
  exact ⟨trivial, hK _ _ hw⟩
/-- KeyKeepers.isPlace(I)Z -/
def f_12 (x0 : Int32) : Int32 :=
  (f_13 x0 0 9)
set_option maxRecDepth 100000 in
theorem s_12 {S : am_S} {d : Nat} {N : Nat} {T : Nat → Nat × Nat} {I : am_I} {L : am_J} {r : Nat → Nat → Option Nat} {Q : am_Q} {x0 : Int32} (hq : Q (some (.int (f_12 x0))) (N, am_ts T, I, L, am_rs r)) : am_E S 12 (d + 1) 0 0 0 [.int x0] [] (N, am_ts T, I, L, am_rs r) Q := by
  unfold f_12 at hq
  try dsimp only at hq
  refine am_E.run [4] 2000 (show (am_E S 12 (d + 1) 0 0 4 [.int x0] [.int 9, .int 0, .int x0] (N, am_ts T, I, L, am_rs r) Q) from ?_)
  refine am_E.go ⟨fun v h9 => v = some (.int (f_13 x0 0 9)) ∧ h9 = (N, am_ts T, I, L, am_rs r), s_13 ⟨rfl, rfl⟩, ?_⟩
  intro v h9 hv
  obtain ⟨rfl, rfl⟩ := hv
  refine am_E.run [] 2000 (show (((f_13 x0 0 9) = 0 ∨ (f_13 x0 0 9) = 1) ∧ Q (some (.int (f_13 x0 0 9))) (N, am_ts T, I, L, am_rs r)) from ?_)
  exact ⟨b_13, hq⟩
theorem b_12 {x0 : Int32} : (f_12 x0) = 0 ∨ (f_12 x0) = 1 := by
  unfold f_12
  (repeat' split) <;> first | exact Or.inl rfl | exact Or.inr rfl | exact b_13
/-- KeyKeepers.wall(II)I -/
def w_17 (x0 : Int32) (x1 : Int32) (I : am_I) (K : Int32 → am_I → Prop) : Prop :=
  if (f_18 x1) = 0 then
    w_14 (-1) I (fun q5 I6 =>
      K q5 I6)
  else
    if (f_19 x0 I) = 0 then
      w_14 (-2) I (fun q3 I4 =>
        K q3 I4)
    else
      w_16 (f_20 (I 1 3) x0) (am_u I 1 3 (f_21 (I 1 3) x0 x1)) (fun q1 I2 =>
        K q1 I2)
set_option maxRecDepth 100000 in
theorem s_17 {S : am_S} {d : Nat} {N : Nat} {T : Nat → Nat × Nat} {I : am_I} {L : am_J} {r : Nat → Nat → Option Nat} {Q : am_Q} {x0 : Int32} {x1 : Int32} {K : Int32 → am_I → Prop} (hw : w_17 x0 x1 I K) (hK : ∀ (q : Int32) (I1 : am_I), K q I1 → Q (some (.int q)) (N, am_ts T, I1, L, am_rs r)) : am_E S 17 (d + 1) 0 0 0 [.ref 0, .int x0, .int x1, am_jk] [] (N, am_ts T, I, L, am_rs r) Q := by
  unfold w_17 at hw
  try dsimp only at hw
  refine am_E.run [1] 2000 (show (am_E S 17 (d + 1) 0 0 1 [.ref 0, .int x0, .int x1, am_jk] [.int x1] (N, am_ts T, I, L, am_rs r) Q) from ?_)
  refine am_E.go ⟨fun v h9 => v = some (.int (f_18 x1)) ∧ h9 = (N, am_ts T, I, L, am_rs r), s_18 ⟨rfl, rfl⟩, ?_⟩
  intro v h9 hv
  obtain ⟨rfl, rfl⟩ := hv
  refine am_E.run [9, 18] 2000 (show (if (f_18 x1) = 0 then (am_E S 17 (d + 1) 0 0 9 [.ref 0, .int x0, .int x1, am_jk] [.int (-1), .ref 0] (N, am_ts T, I, L, am_rs r) Q) else (am_E S 17 (d + 1) 0 0 18 [.ref 0, .int x0, .int x1, am_jk] [.int x0, .ref 1] (N, am_ts T, I, L, am_rs r) Q)) from ?_)
  by_cases hc : (f_18 x1) = 0
  · rw [if_pos hc] at hw ⊢
    refine am_E.go ⟨am_ki_I N T L r _, s_14 hw (fun q5 I6 hk => ⟨q5, I6, rfl, rfl, hk⟩), ?_⟩
    intro v h9 hv
    obtain ⟨q5, I6, rfl, rfl, hw⟩ := hv
    try dsimp only at hw
    refine am_E.run [] 2000 (show (True ∧ Q (some (.int q5)) (N, am_ts T, I6, L, am_rs r)) from ?_)
    exact ⟨trivial, hK _ _ hw⟩
  · rw [if_neg hc] at hw ⊢
    refine am_E.go ⟨fun v h9 => v = some (.int (f_19 x0 I)) ∧ h9 = (N, am_ts T, I, L, am_rs r), s_19 ⟨rfl, rfl⟩, ?_⟩
    intro v h9 hv
    obtain ⟨rfl, rfl⟩ := hv
    refine am_E.run [27, 39] 2000 (show (if (f_19 x0 I) = 0 then (am_E S 17 (d + 1) 0 0 27 [.ref 0, .int x0, .int x1, am_jk] [.int (-2), .ref 0] (N, am_ts T, I, L, am_rs r) Q) else (am_E S 17 (d + 1) 0 0 39 [.ref 0, .int x0, .int x1, am_jk] [.int x0, .int (I 1 3)] (N, am_ts T, I, L, am_rs r) Q)) from ?_)
    by_cases hc : (f_19 x0 I) = 0
    · rw [if_pos hc] at hw ⊢
      refine am_E.go ⟨am_ki_I N T L r _, s_14 hw (fun q3 I4 hk => ⟨q3, I4, rfl, rfl, hk⟩), ?_⟩
      intro v h9 hv
      obtain ⟨q3, I4, rfl, rfl, hw⟩ := hv
      try dsimp only at hw
      refine am_E.run [] 2000 (show (True ∧ Q (some (.int q3)) (N, am_ts T, I4, L, am_rs r)) from ?_)
      exact ⟨trivial, hK _ _ hw⟩
    · rw [if_neg hc] at hw ⊢
      refine am_E.go ⟨fun v h9 => v = some (.int (f_20 (I 1 3) x0)) ∧ h9 = (N, am_ts T, I, L, am_rs r), s_20 ⟨rfl, rfl⟩, ?_⟩
      intro v h9 hv
      obtain ⟨rfl, rfl⟩ := hv
      refine am_E.run [56] 2000 (show (am_E S 17 (d + 1) 0 0 56 [.ref 0, .int x0, .int x1, .int (f_20 (I 1 3) x0)] [.int x1, .int x0, .int (I 1 3), .ref 1] (N, am_ts T, I, L, am_rs r) Q) from ?_)
      refine am_E.go ⟨fun v h9 => v = some (.int (f_21 (I 1 3) x0 x1)) ∧ h9 = (N, am_ts T, I, L, am_rs r), s_21 ⟨rfl, rfl⟩, ?_⟩
      intro v h9 hv
      obtain ⟨rfl, rfl⟩ := hv
      refine am_E.run [64] 2000 (show (am_E S 17 (d + 1) 0 0 64 [.ref 0, .int x0, .int x1, .int (f_20 (I 1 3) x0)] [.int (f_20 (I 1 3) x0), .ref 0] (N, am_ts T, (am_u I 1 3 (f_21 (I 1 3) x0 x1)), L, am_rs r) Q) from ?_)
      refine am_E.go ⟨am_ki_I N T L r _, s_16 hw (fun q1 I2 hk => ⟨q1, I2, rfl, rfl, hk⟩), ?_⟩
      intro v h9 hv
      obtain ⟨q1, I2, rfl, rfl, hw⟩ := hv
      try dsimp only at hw
      refine am_E.run [] 2000 (show (True ∧ Q (some (.int q1)) (N, am_ts T, I2, L, am_rs r)) from ?_)
      exact ⟨trivial, hK _ _ hw⟩
/-- KeyKeepers.canBePrisoner(III)Z -/
def f_23 (x0 : Int32) (x1 : Int32) (x2 : Int32) : Int32 :=
  if (f_13 x0 1 99) = 0 then
    0
  else
    if (f_13 x1 0 9) = 0 then
      0
    else
      if (f_12 x2) = 0 then
        0
      else
        if x2 = 0 then
          0
        else
          1
set_option maxRecDepth 100000 in
theorem s_23 {S : am_S} {d : Nat} {N : Nat} {T : Nat → Nat × Nat} {I : am_I} {L : am_J} {r : Nat → Nat → Option Nat} {Q : am_Q} {x0 : Int32} {x1 : Int32} {x2 : Int32} (hq : Q (some (.int (f_23 x0 x1 x2))) (N, am_ts T, I, L, am_rs r)) : am_E S 23 (d + 2) 0 0 0 [.int x0, .int x1, .int x2] [] (N, am_ts T, I, L, am_rs r) Q := by
  unfold f_23 at hq
  try dsimp only at hq
  refine am_E.run [4] 2000 (show (am_E S 23 (d + 2) 0 0 4 [.int x0, .int x1, .int x2] [.int 99, .int 1, .int x0] (N, am_ts T, I, L, am_rs r) Q) from ?_)
  refine am_E.go ⟨fun v h9 => v = some (.int (f_13 x0 1 99)) ∧ h9 = (N, am_ts T, I, L, am_rs r), s_13 ⟨rfl, rfl⟩, ?_⟩
  intro v h9 hv
  obtain ⟨rfl, rfl⟩ := hv
  refine am_E.run [14] 2000 (show (if (f_13 x0 1 99) = 0 then (((0 : Int32) = 0 ∨ (0 : Int32) = 1) ∧ Q (some (.int 0)) (N, am_ts T, I, L, am_rs r)) else (am_E S 23 (d + 2) 0 0 14 [.int x0, .int x1, .int x2] [.int 9, .int 0, .int x1] (N, am_ts T, I, L, am_rs r) Q)) from ?_)
  by_cases hc : (f_13 x0 1 99) = 0
  · rw [if_pos hc] at hq ⊢
    exact ⟨Or.inl rfl, hq⟩
  · rw [if_neg hc] at hq ⊢
    refine am_E.go ⟨fun v h9 => v = some (.int (f_13 x1 0 9)) ∧ h9 = (N, am_ts T, I, L, am_rs r), s_13 ⟨rfl, rfl⟩, ?_⟩
    intro v h9 hv
    obtain ⟨rfl, rfl⟩ := hv
    refine am_E.run [21] 2000 (show (if (f_13 x1 0 9) = 0 then (((0 : Int32) = 0 ∨ (0 : Int32) = 1) ∧ Q (some (.int 0)) (N, am_ts T, I, L, am_rs r)) else (am_E S 23 (d + 2) 0 0 21 [.int x0, .int x1, .int x2] [.int x2] (N, am_ts T, I, L, am_rs r) Q)) from ?_)
    by_cases hc : (f_13 x1 0 9) = 0
    · rw [if_pos hc] at hq ⊢
      exact ⟨Or.inl rfl, hq⟩
    · rw [if_neg hc] at hq ⊢
      refine am_E.go ⟨fun v h9 => v = some (.int (f_12 x2)) ∧ h9 = (N, am_ts T, I, L, am_rs r), s_12 ⟨rfl, rfl⟩, ?_⟩
      intro v h9 hv
      obtain ⟨rfl, rfl⟩ := hv
      refine am_E.run [] 2000 (show (if (f_12 x2) = 0 then (((0 : Int32) = 0 ∨ (0 : Int32) = 1) ∧ Q (some (.int 0)) (N, am_ts T, I, L, am_rs r)) else (if x2 = 0 then (((0 : Int32) = 0 ∨ (0 : Int32) = 1) ∧ Q (some (.int 0)) (N, am_ts T, I, L, am_rs r)) else (((1 : Int32) = 0 ∨ (1 : Int32) = 1) ∧ Q (some (.int 1)) (N, am_ts T, I, L, am_rs r)))) from ?_)
      by_cases hc : (f_12 x2) = 0
      · rw [if_pos hc] at hq ⊢
        exact ⟨Or.inl rfl, hq⟩
      · rw [if_neg hc] at hq ⊢
        by_cases hc : x2 = 0
        · rw [if_pos hc] at hq ⊢
          exact ⟨Or.inl rfl, hq⟩
        · rw [if_neg hc] at hq ⊢
          exact ⟨Or.inr rfl, hq⟩
theorem b_23 {x0 : Int32} {x1 : Int32} {x2 : Int32} : (f_23 x0 x1 x2) = 0 ∨ (f_23 x0 x1 x2) = 1 := by
  unfold f_23
  (repeat' split) <;> first | exact Or.inl rfl | exact Or.inr rfl
/-- KeyKeepers.of(II)I -/
def w_26 (x0 : Int32) (x1 : Int32) (I : am_I) (K : Int32 → Prop) : Prop :=
  if (f_27 x0 I) = 0 then
    K (-1)
  else
    if x1 = 0 then
      ¬ (x0 < 0 ∨ 8 ≤ Int32.toNatClampNeg x0) ∧
      K (I 4 (Int32.toNatClampNeg x0))
    else
    if x1 = 1 then
      ¬ (x0 < 0 ∨ 8 ≤ Int32.toNatClampNeg x0) ∧
      K (I 5 (Int32.toNatClampNeg x0))
    else
    if x1 = 2 then
      ¬ (x0 < 0 ∨ 8 ≤ Int32.toNatClampNeg x0) ∧
      K (I 6 (Int32.toNatClampNeg x0))
    else
    if x1 = 3 then
      ¬ (x0 < 0 ∨ 8 ≤ Int32.toNatClampNeg x0) ∧
      K (I 7 (Int32.toNatClampNeg x0))
    else
    if x1 = 4 then
      ¬ (x0 < 0 ∨ 8 ≤ Int32.toNatClampNeg x0) ∧
      K (I 8 (Int32.toNatClampNeg x0))
    else
    if x1 = 5 then
      K (f_20 (I 1 9) x0)
    else
    K (-1)
set_option maxRecDepth 100000 in
theorem s_26 {S : am_S} {d : Nat} {N : Nat} {T : Nat → Nat × Nat} {I : am_I} {L : am_J} {r : Nat → Nat → Option Nat} {Q : am_Q} {x0 : Int32} {x1 : Int32} {K : Int32 → Prop} (hw : w_26 x0 x1 I K) (hK : ∀ (q : Int32), K q → Q (some (.int q)) (N, am_ts T, I, L, am_rs r)) : am_E S 26 (d + 1) 0 0 0 [.ref 0, .int x0, .int x1] [] (N, am_ts T, I, L, am_rs r) Q := by
  unfold w_26 at hw
  try dsimp only at hw
  refine am_E.run [5] 2000 (show (am_E S 26 (d + 1) 0 0 5 [.ref 0, .int x0, .int x1] [.int x0, .ref 1] (N, am_ts T, I, L, am_rs r) Q) from ?_)
  refine am_E.go ⟨fun v h9 => v = some (.int (f_27 x0 I)) ∧ h9 = (N, am_ts T, I, L, am_rs r), s_27 ⟨rfl, rfl⟩, ?_⟩
  intro v h9 hv
  obtain ⟨rfl, rfl⟩ := hv
  refine am_E.run [14] 2000 (show (if (f_27 x0 I) = 0 then (True ∧ Q (some (.int (-1))) (N, am_ts T, I, L, am_rs r)) else (am_E S 26 (d + 1) 0 0 14 [.ref 0, .int x0, .int x1] [.int x1] (N, am_ts T, I, L, am_rs r) Q)) from ?_)
  by_cases hc : (f_27 x0 I) = 0
  · rw [if_pos hc] at hw ⊢
    exact ⟨trivial, hK _ hw⟩
  · rw [if_neg hc] at hw ⊢
    by_cases hc0 : x1 = 0
    · rw [if_pos hc0] at hw
      refine am_E.swap (k := 0) hc0 ?_
      refine am_E.go (show (am_E S 26 (d + 1) 0 0 52 [.ref 0, .int x0, .int x1] [] (N, am_ts T, I, L, am_rs r) Q) from ?_)
      refine am_E.run [] 2000 (show (if x0 < 0 ∨ 8 ≤ Int32.toNatClampNeg x0 then False else (True ∧ Q (some (.int (I 4 (Int32.toNatClampNeg x0)))) (N, am_ts T, I, L, am_rs r))) from ?_)
      refine am_ifn hw.1 ?_
      replace hw := hw.2
      exact ⟨trivial, hK _ hw⟩
    rw [if_neg hc0] at hw
    by_cases hc1 : x1 = 1
    · rw [if_pos hc1] at hw
      refine am_E.swap (k := 1) hc1 ?_
      refine am_E.go (show (am_E S 26 (d + 1) 0 0 62 [.ref 0, .int x0, .int x1] [] (N, am_ts T, I, L, am_rs r) Q) from ?_)
      refine am_E.run [] 2000 (show (if x0 < 0 ∨ 8 ≤ Int32.toNatClampNeg x0 then False else (True ∧ Q (some (.int (I 5 (Int32.toNatClampNeg x0)))) (N, am_ts T, I, L, am_rs r))) from ?_)
      refine am_ifn hw.1 ?_
      replace hw := hw.2
      exact ⟨trivial, hK _ hw⟩
    rw [if_neg hc1] at hw
    by_cases hc2 : x1 = 2
    · rw [if_pos hc2] at hw
      refine am_E.swap (k := 2) hc2 ?_
      refine am_E.go (show (am_E S 26 (d + 1) 0 0 72 [.ref 0, .int x0, .int x1] [] (N, am_ts T, I, L, am_rs r) Q) from ?_)
      refine am_E.run [] 2000 (show (if x0 < 0 ∨ 8 ≤ Int32.toNatClampNeg x0 then False else (True ∧ Q (some (.int (I 6 (Int32.toNatClampNeg x0)))) (N, am_ts T, I, L, am_rs r))) from ?_)
      refine am_ifn hw.1 ?_
      replace hw := hw.2
      exact ⟨trivial, hK _ hw⟩
    rw [if_neg hc2] at hw
    by_cases hc3 : x1 = 3
    · rw [if_pos hc3] at hw
      refine am_E.swap (k := 3) hc3 ?_
      refine am_E.go (show (am_E S 26 (d + 1) 0 0 82 [.ref 0, .int x0, .int x1] [] (N, am_ts T, I, L, am_rs r) Q) from ?_)
      refine am_E.run [] 2000 (show (if x0 < 0 ∨ 8 ≤ Int32.toNatClampNeg x0 then False else (True ∧ Q (some (.int (I 7 (Int32.toNatClampNeg x0)))) (N, am_ts T, I, L, am_rs r))) from ?_)
      refine am_ifn hw.1 ?_
      replace hw := hw.2
      exact ⟨trivial, hK _ hw⟩
    rw [if_neg hc3] at hw
    by_cases hc4 : x1 = 4
    · rw [if_pos hc4] at hw
      refine am_E.swap (k := 4) hc4 ?_
      refine am_E.go (show (am_E S 26 (d + 1) 0 0 92 [.ref 0, .int x0, .int x1] [] (N, am_ts T, I, L, am_rs r) Q) from ?_)
      refine am_E.run [] 2000 (show (if x0 < 0 ∨ 8 ≤ Int32.toNatClampNeg x0 then False else (True ∧ Q (some (.int (I 8 (Int32.toNatClampNeg x0)))) (N, am_ts T, I, L, am_rs r))) from ?_)
      refine am_ifn hw.1 ?_
      replace hw := hw.2
      exact ⟨trivial, hK _ hw⟩
    rw [if_neg hc4] at hw
    by_cases hc5 : x1 = 5
    · rw [if_pos hc5] at hw
      refine am_E.swap (k := 5) hc5 ?_
      refine am_E.go (show (am_E S 26 (d + 1) 0 0 102 [.ref 0, .int x0, .int x1] [] (N, am_ts T, I, L, am_rs r) Q) from ?_)
      refine am_E.run [110] 2000 (show (am_E S 26 (d + 1) 0 0 110 [.ref 0, .int x0, .int x1] [.int x0, .int (I 1 9)] (N, am_ts T, I, L, am_rs r) Q) from ?_)
      refine am_E.go ⟨fun v h9 => v = some (.int (f_20 (I 1 9) x0)) ∧ h9 = (N, am_ts T, I, L, am_rs r), s_20 ⟨rfl, rfl⟩, ?_⟩
      intro v h9 hv
      obtain ⟨rfl, rfl⟩ := hv
      refine am_E.run [] 2000 (show (True ∧ Q (some (.int (f_20 (I 1 9) x0))) (N, am_ts T, I, L, am_rs r)) from ?_)
      exact ⟨trivial, hK _ hw⟩
    rw [if_neg hc5] at hw
    have hd : (x1).toInt < 0 ∨ 5 < (x1).toInt := by
      have g0 := am_ine hc0
      have g1 := am_ine hc1
      have g2 := am_ine hc2
      have g3 := am_ine hc3
      have g4 := am_ine hc4
      have g5 := am_ine hc5
      change (x1).toInt ≠ 0 at g0
      change (x1).toInt ≠ 1 at g1
      change (x1).toInt ≠ 2 at g2
      change (x1).toInt ≠ 3 at g3
      change (x1).toInt ≠ 4 at g4
      change (x1).toInt ≠ 5 at g5
      omega
    refine am_E.go (show (if (x1).toInt < 0 ∨ 5 < (x1).toInt then (am_E S 26 (d + 1) 0 0 114 [.ref 0, .int x0, .int x1] [] (N, am_ts T, I, L, am_rs r) Q) else _) from ?_)
    rw [if_pos hd]
    refine am_E.run [] 2000 (show (True ∧ Q (some (.int (-1))) (N, am_ts T, I, L, am_rs r)) from ?_)
    exact ⟨trivial, hK _ hw⟩
/-- KeyKeepers.feed(IIIII)I -/
def w_32 (x0 : Int32) (x1 : Int32) (x2 : Int32) (x3 : Int32) (x4 : Int32) (I : am_I) (K : Int32 → am_I → Prop) : Prop :=
  if ((I 14 1) + 20) ≤ 400 then
    w_33 x0 I (fun I1 =>
      w_33 x1 I1 (fun I2 =>
        w_33 x2 I2 (fun I3 =>
          w_33 x3 I3 (fun I4 =>
            w_33 x4 I4 (fun I5 =>
              K (I5 14 1) I5)))))
  else
    K (-1) I
set_option maxRecDepth 100000 in
theorem s_32 {S : am_S} {d : Nat} {N : Nat} {T : Nat → Nat × Nat} {I : am_I} {L : am_J} {r : Nat → Nat → Option Nat} {Q : am_Q} {x0 : Int32} {x1 : Int32} {x2 : Int32} {x3 : Int32} {x4 : Int32} {K : Int32 → am_I → Prop} (hw : w_32 x0 x1 x2 x3 x4 I K) (hK : ∀ (q : Int32) (I1 : am_I), K q I1 → Q (some (.int q)) (N, am_ts T, I1, L, am_rs r)) : am_E S 32 (d + 1) 0 0 0 [.ref 0, .int x0, .int x1, .int x2, .int x3, .int x4] [] (N, am_ts T, I, L, am_rs r) Q := by
  unfold w_32 at hw
  try dsimp only at hw
  refine am_E.run [23] 2000 (show (if ((I 14 1) + 20) ≤ 400 then (am_E S 32 (d + 1) 0 0 23 [.ref 0, .int x0, .int x1, .int x2, .int x3, .int x4] [.int x0, .ref 14] (N, am_ts T, I, L, am_rs r) Q) else (True ∧ Q (some (.int (-1))) (N, am_ts T, I, L, am_rs r))) from ?_)
  by_cases hc : ((I 14 1) + 20) ≤ 400
  · rw [if_pos hc] at hw ⊢
    refine am_E.go ⟨am_kv_I N T L r _, s_33 hw (fun I1 hk => ⟨I1, rfl, rfl, hk⟩), ?_⟩
    intro v h9 hv
    obtain ⟨I1, rfl, rfl, hw⟩ := hv
    try dsimp only at hw
    refine am_E.run [31] 2000 (show (am_E S 32 (d + 1) 0 0 31 [.ref 0, .int x0, .int x1, .int x2, .int x3, .int x4] [.int x1, .ref 14] (N, am_ts T, I1, L, am_rs r) Q) from ?_)
    refine am_E.go ⟨am_kv_I N T L r _, s_33 hw (fun I2 hk => ⟨I2, rfl, rfl, hk⟩), ?_⟩
    intro v h9 hv
    obtain ⟨I2, rfl, rfl, hw⟩ := hv
    try dsimp only at hw
    refine am_E.run [39] 2000 (show (am_E S 32 (d + 1) 0 0 39 [.ref 0, .int x0, .int x1, .int x2, .int x3, .int x4] [.int x2, .ref 14] (N, am_ts T, I2, L, am_rs r) Q) from ?_)
    refine am_E.go ⟨am_kv_I N T L r _, s_33 hw (fun I3 hk => ⟨I3, rfl, rfl, hk⟩), ?_⟩
    intro v h9 hv
    obtain ⟨I3, rfl, rfl, hw⟩ := hv
    try dsimp only at hw
    refine am_E.run [48] 2000 (show (am_E S 32 (d + 1) 0 0 48 [.ref 0, .int x0, .int x1, .int x2, .int x3, .int x4] [.int x3, .ref 14] (N, am_ts T, I3, L, am_rs r) Q) from ?_)
    refine am_E.go ⟨am_kv_I N T L r _, s_33 hw (fun I4 hk => ⟨I4, rfl, rfl, hk⟩), ?_⟩
    intro v h9 hv
    obtain ⟨I4, rfl, rfl, hw⟩ := hv
    try dsimp only at hw
    refine am_E.run [57] 2000 (show (am_E S 32 (d + 1) 0 0 57 [.ref 0, .int x0, .int x1, .int x2, .int x3, .int x4] [.int x4, .ref 14] (N, am_ts T, I4, L, am_rs r) Q) from ?_)
    refine am_E.go ⟨am_kv_I N T L r _, s_33 hw (fun I5 hk => ⟨I5, rfl, rfl, hk⟩), ?_⟩
    intro v h9 hv
    obtain ⟨I5, rfl, rfl, hw⟩ := hv
    try dsimp only at hw
    refine am_E.run [] 2000 (show (True ∧ Q (some (.int (I5 14 1))) (N, am_ts T, I5, L, am_rs r)) from ?_)
    exact ⟨trivial, hK _ _ hw⟩
  · rw [if_neg hc] at hw ⊢
    exact ⟨trivial, hK _ _ hw⟩
/-- KeyKeepers.a_dmit(III)Z -/
def w_36 (x0 : Int32) (x1 : Int32) (x2 : Int32) (I : am_I) (K : Int32 → am_I → Prop) : Prop :=
  if (8 : Int32) ≤ (I 1 10) then
    K 0 I
  else
    if (f_23 x0 x1 x2) = 0 then
      K 0 I
    else
      w_25 x0 x1 x2 I (fun q1 I2 =>
        K 1 I2)
set_option maxRecDepth 100000 in
theorem s_36 {S : am_S} {d : Nat} {N : Nat} {T : Nat → Nat × Nat} {I : am_I} {L : am_J} {r : Nat → Nat → Option Nat} {Q : am_Q} {x0 : Int32} {x1 : Int32} {x2 : Int32} {K : Int32 → am_I → Prop} (hw : w_36 x0 x1 x2 I K) (hK : ∀ (q : Int32) (I1 : am_I), K q I1 → Q (some (.int q)) (N, am_ts T, I1, L, am_rs r)) : am_E S 36 (d + 3) 0 0 0 [.ref 0, .int x0, .int x1, .int x2] [] (N, am_ts T, I, L, am_rs r) Q := by
  unfold w_36 at hw
  try dsimp only at hw
  refine am_E.run [15] 2000 (show (if (8 : Int32) ≤ (I 1 10) then (((0 : Int32) = 0 ∨ (0 : Int32) = 1) ∧ Q (some (.int 0)) (N, am_ts T, I, L, am_rs r)) else (am_E S 36 (d + 3) 0 0 15 [.ref 0, .int x0, .int x1, .int x2] [.int x2, .int x1, .int x0] (N, am_ts T, I, L, am_rs r) Q)) from ?_)
  by_cases hc : (8 : Int32) ≤ (I 1 10)
  · rw [if_pos hc] at hw ⊢
    exact ⟨Or.inl rfl, hK _ _ hw⟩
  · rw [if_neg hc] at hw ⊢
    refine am_E.go ⟨fun v h9 => v = some (.int (f_23 x0 x1 x2)) ∧ h9 = (N, am_ts T, I, L, am_rs r), s_23 ⟨rfl, rfl⟩, ?_⟩
    intro v h9 hv
    obtain ⟨rfl, rfl⟩ := hv
    refine am_E.run [30] 2000 (show (if (f_23 x0 x1 x2) = 0 then (((0 : Int32) = 0 ∨ (0 : Int32) = 1) ∧ Q (some (.int 0)) (N, am_ts T, I, L, am_rs r)) else (am_E S 36 (d + 3) 0 0 30 [.ref 0, .int x0, .int x1, .int x2] [.int x2, .int x1, .int x0, .ref 1] (N, am_ts T, I, L, am_rs r) Q)) from ?_)
    by_cases hc : (f_23 x0 x1 x2) = 0
    · rw [if_pos hc] at hw ⊢
      exact ⟨Or.inl rfl, hK _ _ hw⟩
    · rw [if_neg hc] at hw ⊢
      refine am_E.go ⟨am_ki_I N T L r _, s_25 hw (fun q1 I2 hk => ⟨q1, I2, rfl, rfl, hk⟩), ?_⟩
      intro v h9 hv
      obtain ⟨q1, I2, rfl, rfl, hw⟩ := hv
      try dsimp only at hw
      refine am_E.run [] 2000 (show (((1 : Int32) = 0 ∨ (1 : Int32) = 1) ∧ Q (some (.int 1)) (N, am_ts T, I2, L, am_rs r)) from ?_)
      exact ⟨Or.inr rfl, hK _ _ hw⟩
def lw_41_54 : Nat → Int32 → am_I → (Int32 → Prop) → Prop
  | 0, _, _, _ => False
  | n + 1, v2, I, E0 =>
    if (I 14 1) ≤ v2 then
      E0 v2
    else
      ¬ (v2 < 0 ∨ 400 ≤ Int32.toNatClampNeg v2) ∧
      if (f_43 (I 15 (Int32.toNatClampNeg v2))) = 0 then
        E0 v2
      else
        lw_41_54 n (v2 + 1) I E0
set_option maxRecDepth 100000 in
theorem sl_41_54 {S : am_S} {d : Nat} {Q : am_Q} {N : Nat} {T : Nat → Nat × Nat} {I : am_I} {L : am_J} {r : Nat → Nat → Option Nat} {E0 : Int32 → Prop} : ∀ (n : Nat) {v2 : Int32}, lw_41_54 n v2 I E0 → (∀ (o2 : Int32), E0 o2 → am_E S 41 (d + 1) 0 0 80 [.ref 14, am_jk, .int o2] [] (N, am_ts T, I, L, am_rs r) Q) → am_E S 41 (d + 1) 0 0 54 [.ref 14, am_jk, .int v2] [] (N, am_ts T, I, L, am_rs r) Q
  | 0, _, hw, _ => hw.elim
  | n + 1, v2, hw, hE0 => by
    have ih := @sl_41_54 S d Q N T I L r E0 n
    unfold lw_41_54 at hw
    try dsimp only at hw
    refine am_E.run [68, 80] 2000 (show (if (I 14 1) ≤ v2 then (am_E S 41 (d + 1) 0 0 80 [.ref 14, am_jk, .int v2] [] (N, am_ts T, I, L, am_rs r) Q) else (if v2 < 0 ∨ 400 ≤ Int32.toNatClampNeg v2 then False else (am_E S 41 (d + 1) 0 0 68 [.ref 14, am_jk, .int v2] [.int (I 15 (Int32.toNatClampNeg v2))] (N, am_ts T, I, L, am_rs r) Q))) from ?_)
    by_cases hc : (I 14 1) ≤ v2
    · rw [if_pos hc] at hw ⊢
      exact hE0 _ hw
    · rw [if_neg hc] at hw ⊢
      refine am_ifn hw.1 ?_
      replace hw := hw.2
      refine am_E.go ⟨fun v h9 => v = some (.int (f_43 (I 15 (Int32.toNatClampNeg v2)))) ∧ h9 = (N, am_ts T, I, L, am_rs r), s_43 ⟨rfl, rfl⟩, ?_⟩
      intro v h9 hv
      obtain ⟨rfl, rfl⟩ := hv
      refine am_E.run [54, 80] 2000 (show (if (f_43 (I 15 (Int32.toNatClampNeg v2))) = 0 then (am_E S 41 (d + 1) 0 0 80 [.ref 14, am_jk, .int v2] [] (N, am_ts T, I, L, am_rs r) Q) else (am_E S 41 (d + 1) 0 0 54 [.ref 14, am_jk, .int (v2 + 1)] [] (N, am_ts T, I, L, am_rs r) Q)) from ?_)
      by_cases hc : (f_43 (I 15 (Int32.toNatClampNeg v2))) = 0
      · rw [if_pos hc] at hw ⊢
        exact hE0 _ hw
      · rw [if_neg hc] at hw ⊢
        exact ih hw hE0
def lw_41_16 : Nat → Int32 → am_I → (Int32 → Prop) → Prop
  | 0, _, _, _ => False
  | n + 1, v2, I, E0 =>
    if (I 14 1) ≤ v2 then
      E0 v2
    else
      ¬ (v2 < 0 ∨ 400 ≤ Int32.toNatClampNeg v2) ∧
      if (f_42 (I 15 (Int32.toNatClampNeg v2))) = 0 then
        E0 v2
      else
        lw_41_16 n (v2 + 1) I E0
set_option maxRecDepth 100000 in
theorem sl_41_16 {S : am_S} {d : Nat} {Q : am_Q} {N : Nat} {T : Nat → Nat × Nat} {I : am_I} {L : am_J} {r : Nat → Nat → Option Nat} {E0 : Int32 → Prop} : ∀ (n : Nat) {v2 : Int32}, lw_41_16 n v2 I E0 → (∀ (o2 : Int32), E0 o2 → am_E S 41 (d + 1) 0 0 80 [.ref 14, am_jk, .int o2] [] (N, am_ts T, I, L, am_rs r) Q) → am_E S 41 (d + 1) 0 0 16 [.ref 14, am_jk, .int v2] [] (N, am_ts T, I, L, am_rs r) Q
  | 0, _, hw, _ => hw.elim
  | n + 1, v2, hw, hE0 => by
    have ih := @sl_41_16 S d Q N T I L r E0 n
    unfold lw_41_16 at hw
    try dsimp only at hw
    refine am_E.run [30, 80] 2000 (show (if (I 14 1) ≤ v2 then (am_E S 41 (d + 1) 0 0 80 [.ref 14, am_jk, .int v2] [] (N, am_ts T, I, L, am_rs r) Q) else (if v2 < 0 ∨ 400 ≤ Int32.toNatClampNeg v2 then False else (am_E S 41 (d + 1) 0 0 30 [.ref 14, am_jk, .int v2] [.int (I 15 (Int32.toNatClampNeg v2))] (N, am_ts T, I, L, am_rs r) Q))) from ?_)
    by_cases hc : (I 14 1) ≤ v2
    · rw [if_pos hc] at hw ⊢
      exact hE0 _ hw
    · rw [if_neg hc] at hw ⊢
      refine am_ifn hw.1 ?_
      replace hw := hw.2
      refine am_E.go ⟨fun v h9 => v = some (.int (f_42 (I 15 (Int32.toNatClampNeg v2)))) ∧ h9 = (N, am_ts T, I, L, am_rs r), s_42 ⟨rfl, rfl⟩, ?_⟩
      intro v h9 hv
      obtain ⟨rfl, rfl⟩ := hv
      refine am_E.run [16, 80] 2000 (show (if (f_42 (I 15 (Int32.toNatClampNeg v2))) = 0 then (am_E S 41 (d + 1) 0 0 80 [.ref 14, am_jk, .int v2] [] (N, am_ts T, I, L, am_rs r) Q) else (am_E S 41 (d + 1) 0 0 16 [.ref 14, am_jk, .int (v2 + 1)] [] (N, am_ts T, I, L, am_rs r) Q)) from ?_)
      by_cases hc : (f_42 (I 15 (Int32.toNatClampNeg v2))) = 0
      · rw [if_pos hc] at hw ⊢
        exact hE0 _ hw
      · rw [if_neg hc] at hw ⊢
        exact ih hw hE0
/-- KeyKeepers$Reader.behindToken(I)I -/
def w_41 (x0 : Int32) (I : am_I) (K : Int32 → Prop) : Prop :=
  ¬ (x0 < 0 ∨ 400 ≤ Int32.toNatClampNeg x0) ∧
  if (f_42 (I 15 (Int32.toNatClampNeg x0))) = 0 then
    ¬ (x0 < 0 ∨ 400 ≤ Int32.toNatClampNeg x0) ∧
    if (f_43 (I 15 (Int32.toNatClampNeg x0))) = 0 then
      K (x0 + 1)
    else
      ∃ n54, lw_41_54 n54 (x0 + 1) I (fun o1 =>
        K o1)
  else
    ∃ n16, lw_41_16 n16 (x0 + 1) I (fun o2 =>
      K o2)
set_option maxRecDepth 100000 in
theorem s_41 {S : am_S} {d : Nat} {N : Nat} {T : Nat → Nat × Nat} {I : am_I} {L : am_J} {r : Nat → Nat → Option Nat} {Q : am_Q} {x0 : Int32} {K : Int32 → Prop} (hw : w_41 x0 I K) (hK : ∀ (q : Int32), K q → Q (some (.int q)) (N, am_ts T, I, L, am_rs r)) : am_E S 41 (d + 1) 0 0 0 [.ref 14, .int x0, am_jk] [] (N, am_ts T, I, L, am_rs r) Q := by
  unfold w_41 at hw
  try dsimp only at hw
  refine am_E.run [10] 2000 (show (if x0 < 0 ∨ 400 ≤ Int32.toNatClampNeg x0 then False else (am_E S 41 (d + 1) 0 0 10 [.ref 14, .int x0, .int (x0 + 1)] [.int (I 15 (Int32.toNatClampNeg x0))] (N, am_ts T, I, L, am_rs r) Q)) from ?_)
  refine am_ifn hw.1 ?_
  replace hw := hw.2
  refine am_E.go ⟨fun v h9 => v = some (.int (f_42 (I 15 (Int32.toNatClampNeg x0)))) ∧ h9 = (N, am_ts T, I, L, am_rs r), s_42 ⟨rfl, rfl⟩, ?_⟩
  intro v h9 hv
  obtain ⟨rfl, rfl⟩ := hv
  refine am_E.run [16, 48] 2000 (show (if (f_42 (I 15 (Int32.toNatClampNeg x0))) = 0 then (if x0 < 0 ∨ 400 ≤ Int32.toNatClampNeg x0 then False else (am_E S 41 (d + 1) 0 0 48 [.ref 14, .int x0, .int (x0 + 1)] [.int (I 15 (Int32.toNatClampNeg x0))] (N, am_ts T, I, L, am_rs r) Q)) else (am_E S 41 (d + 1) 0 0 16 [.ref 14, .int x0, .int (x0 + 1)] [] (N, am_ts T, I, L, am_rs r) Q)) from ?_)
  by_cases hc : (f_42 (I 15 (Int32.toNatClampNeg x0))) = 0
  · rw [if_pos hc] at hw ⊢
    refine am_ifn hw.1 ?_
    replace hw := hw.2
    refine am_E.go ⟨fun v h9 => v = some (.int (f_43 (I 15 (Int32.toNatClampNeg x0)))) ∧ h9 = (N, am_ts T, I, L, am_rs r), s_43 ⟨rfl, rfl⟩, ?_⟩
    intro v h9 hv
    obtain ⟨rfl, rfl⟩ := hv
    refine am_E.run [54] 2000 (show (if (f_43 (I 15 (Int32.toNatClampNeg x0))) = 0 then (True ∧ Q (some (.int (x0 + 1))) (N, am_ts T, I, L, am_rs r)) else (am_E S 41 (d + 1) 0 0 54 [.ref 14, .int x0, .int (x0 + 1)] [] (N, am_ts T, I, L, am_rs r) Q)) from ?_)
    by_cases hc : (f_43 (I 15 (Int32.toNatClampNeg x0))) = 0
    · rw [if_pos hc] at hw ⊢
      exact ⟨trivial, hK _ hw⟩
    · rw [if_neg hc] at hw ⊢
      obtain ⟨n54, hw⟩ := hw
      refine am_E.junk (lo := [.ref 14, am_jk, .int (x0 + 1)]) ?_ (am_le.cons (am_le.jk (am_le.cons am_le.nil)))
      refine sl_41_54 n54 hw (fun o1 hw => ?_)
      · try dsimp only at hw
        refine am_E.run [] 2000 (show (True ∧ Q (some (.int o1)) (N, am_ts T, I, L, am_rs r)) from ?_)
        exact ⟨trivial, hK _ hw⟩
  · rw [if_neg hc] at hw ⊢
    obtain ⟨n16, hw⟩ := hw
    refine am_E.junk (lo := [.ref 14, am_jk, .int (x0 + 1)]) ?_ (am_le.cons (am_le.jk (am_le.cons am_le.nil)))
    refine sl_41_16 n16 hw (fun o2 hw => ?_)
    · try dsimp only at hw
      refine am_E.run [] 2000 (show (True ∧ Q (some (.int o2)) (N, am_ts T, I, L, am_rs r)) from ?_)
      exact ⟨trivial, hK _ hw⟩
