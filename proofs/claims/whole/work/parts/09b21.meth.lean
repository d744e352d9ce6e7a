def lw_247_17 : Nat → Int32 → Int32 → Int32 → Int32 → am_I → (Int32 → Int32 → Prop) → Prop
  | 0, _, _, _, _, _, _ => False
  | n + 1, v1, v2, v3, v4, I, E0 =>
    if (I 68 1) ≤ v4 then
      E0 v3 v4
    else
      if v3 = 0 then
        ¬ ((10 + v4) < 0 ∨ 5510 ≤ Int32.toNatClampNeg (10 + v4)) ∧
        ¬ ((10 + v1) < 0 ∨ 5510 ≤ Int32.toNatClampNeg (10 + v1)) ∧
        if (I 68 (Int32.toNatClampNeg (10 + v4))) = (I 68 (Int32.toNatClampNeg (10 + v1))) then
          ¬ ((18 + v4) < 0 ∨ 5510 ≤ Int32.toNatClampNeg (18 + v4)) ∧
          if (f_248 (I 68 (Int32.toNatClampNeg (18 + v4))) v2) = 0 then
            lw_247_17 n v1 v2 0 (v4 + 1) I E0
          else
            w_249 v4 v1 I (fun q1 =>
              if q1 = 0 then
                lw_247_17 n v1 v2 0 (v4 + 1) I E0
              else
                lw_247_17 n v1 v2 1 (v4 + 1) I E0)
        else
          lw_247_17 n v1 v2 0 (v4 + 1) I E0
      else
        lw_247_17 n v1 v2 1 (v4 + 1) I E0
set_option maxRecDepth 100000 in
theorem sl_247_17 {S : am_S} {d : Nat} {Q : am_Q} {N : Nat} {T : Nat → Nat × Nat} {I : am_I} {L : am_J} {r : Nat → Nat → Option Nat} {E0 : Int32 → Int32 → Prop} : ∀ (n : Nat) {v1 : Int32} {v2 : Int32} {v3 : Int32} {v4 : Int32}, lw_247_17 n v1 v2 v3 v4 I E0 → (∀ (o3 : Int32) (o4 : Int32), E0 o3 o4 → am_E S 247 (d + 2) 0 0 93 [.ref 66, .int v1, .int v2, .int o3, .int o4] [] (N, am_ts T, I, L, am_rs r) Q) → am_E S 247 (d + 2) 0 0 17 [.ref 66, .int v1, .int v2, .int v3, .int v4] [] (N, am_ts T, I, L, am_rs r) Q
  | 0, _, _, _, _, hw, _ => hw.elim
  | n + 1, v1, v2, v3, v4, hw, hE0 => by
    have ih := @sl_247_17 S d Q N T I L r E0 n
    unfold lw_247_17 at hw
    try dsimp only at hw
    refine am_E.run [17, 65, 93] 2000 (show (if (I 68 1) ≤ v4 then (am_E S 247 (d + 2) 0 0 93 [.ref 66, .int v1, .int v2, .int v3, .int v4] [] (N, am_ts T, I, L, am_rs r) Q) else (if v3 = 0 then (if (10 + v4) < 0 ∨ 5510 ≤ Int32.toNatClampNeg (10 + v4) then False else (if (10 + v1) < 0 ∨ 5510 ≤ Int32.toNatClampNeg (10 + v1) then False else (if (I 68 (Int32.toNatClampNeg (10 + v4))) = (I 68 (Int32.toNatClampNeg (10 + v1))) then (if (18 + v4) < 0 ∨ 5510 ≤ Int32.toNatClampNeg (18 + v4) then False else (am_E S 247 (d + 2) 0 0 65 [.ref 66, .int v1, .int v2, .int v3, .int v4] [.int v2, .int (I 68 (Int32.toNatClampNeg (18 + v4)))] (N, am_ts T, I, L, am_rs r) Q)) else (am_E S 247 (d + 2) 0 0 17 [.ref 66, .int v1, .int v2, .int 0, .int (v4 + 1)] [] (N, am_ts T, I, L, am_rs r) Q)))) else (am_E S 247 (d + 2) 0 0 17 [.ref 66, .int v1, .int v2, .int 1, .int (v4 + 1)] [] (N, am_ts T, I, L, am_rs r) Q))) from ?_)
    by_cases hc : (I 68 1) ≤ v4
    · rw [if_pos hc] at hw ⊢
      exact hE0 _ _ hw
    · rw [if_neg hc] at hw ⊢
      by_cases hc : v3 = 0
      · rw [if_pos hc] at hw ⊢
        refine am_ifn hw.1 ?_
        replace hw := hw.2
        refine am_ifn hw.1 ?_
        replace hw := hw.2
        by_cases hc : (I 68 (Int32.toNatClampNeg (10 + v4))) = (I 68 (Int32.toNatClampNeg (10 + v1)))
        · rw [if_pos hc] at hw ⊢
          refine am_ifn hw.1 ?_
          replace hw := hw.2
          refine am_E.go ⟨fun v h9 => v = some (.int (f_248 (I 68 (Int32.toNatClampNeg (18 + v4))) v2)) ∧ h9 = (N, am_ts T, I, L, am_rs r), s_248 ⟨rfl, rfl⟩, ?_⟩
          intro v h9 hv
          obtain ⟨rfl, rfl⟩ := hv
          refine am_E.run [17, 75] 2000 (show (if (f_248 (I 68 (Int32.toNatClampNeg (18 + v4))) v2) = 0 then (am_E S 247 (d + 2) 0 0 17 [.ref 66, .int v1, .int v2, .int 0, .int (v4 + 1)] [] (N, am_ts T, I, L, am_rs r) Q) else (am_E S 247 (d + 2) 0 0 75 [.ref 66, .int v1, .int v2, .int v3, .int v4] [.int v1, .int v4, .ref 66] (N, am_ts T, I, L, am_rs r) Q)) from ?_)
          by_cases hc : (f_248 (I 68 (Int32.toNatClampNeg (18 + v4))) v2) = 0
          · rw [if_pos hc] at hw ⊢
            exact ih hw hE0
          · rw [if_neg hc] at hw ⊢
            refine am_E.go ⟨am_ki_ N T I L r _, s_249 hw (fun q1 hk => ⟨q1, rfl, rfl, hk⟩), ?_⟩
            intro v h9 hv
            obtain ⟨q1, rfl, rfl, hw⟩ := hv
            try dsimp only at hw
            refine am_E.run [17] 2000 (show (if q1 = 0 then (am_E S 247 (d + 2) 0 0 17 [.ref 66, .int v1, .int v2, .int 0, .int (v4 + 1)] [] (N, am_ts T, I, L, am_rs r) Q) else (am_E S 247 (d + 2) 0 0 17 [.ref 66, .int v1, .int v2, .int 1, .int (v4 + 1)] [] (N, am_ts T, I, L, am_rs r) Q)) from ?_)
            by_cases hc : q1 = 0
            · rw [if_pos hc] at hw ⊢
              exact ih hw hE0
            · rw [if_neg hc] at hw ⊢
              exact ih hw hE0
        · rw [if_neg hc] at hw ⊢
          exact ih hw hE0
      · rw [if_neg hc] at hw ⊢
        exact ih hw hE0
/-- KeyKeepersModel.canOpen(II)Z -/
def w_247 (x0 : Int32) (x1 : Int32) (I : am_I) (K : Int32 → Prop) : Prop :=
  ¬ ((18 + x0) < 0 ∨ 5510 ≤ Int32.toNatClampNeg (18 + x0)) ∧
  ∃ n17, lw_247_17 n17 x0 x1 (f_248 (I 68 (Int32.toNatClampNeg (18 + x0))) x1) 0 I (fun o2 o3 =>
    if o2 = 0 then
      K 0
    else
      w_250 x1 2 I (fun q4 =>
        if q4 = 0 then
          K 1
        else
          K 0))
set_option maxRecDepth 100000 in
theorem s_247 {S : am_S} {d : Nat} {N : Nat} {T : Nat → Nat × Nat} {I : am_I} {L : am_J} {r : Nat → Nat → Option Nat} {Q : am_Q} {x0 : Int32} {x1 : Int32} {K : Int32 → Prop} (hw : w_247 x0 x1 I K) (hK : ∀ (q : Int32), K q → Q (some (.int q)) (N, am_ts T, I, L, am_rs r)) : am_E S 247 (d + 2) 0 0 0 [.ref 66, .int x0, .int x1, am_jk, am_jk] [] (N, am_ts T, I, L, am_rs r) Q := by
  unfold w_247 at hw
  try dsimp only at hw
  refine am_E.run [10] 2000 (show (if (18 + x0) < 0 ∨ 5510 ≤ Int32.toNatClampNeg (18 + x0) then False else (am_E S 247 (d + 2) 0 0 10 [.ref 66, .int x0, .int x1, am_jk, am_jk] [.int x1, .int (I 68 (Int32.toNatClampNeg (18 + x0)))] (N, am_ts T, I, L, am_rs r) Q)) from ?_)
  refine am_ifn hw.1 ?_
  replace hw := hw.2
  refine am_E.go ⟨fun v h9 => v = some (.int (f_248 (I 68 (Int32.toNatClampNeg (18 + x0))) x1)) ∧ h9 = (N, am_ts T, I, L, am_rs r), s_248 ⟨rfl, rfl⟩, ?_⟩
  intro v h9 hv
  obtain ⟨rfl, rfl⟩ := hv
  refine am_E.run [17] 2000 (show (am_E S 247 (d + 2) 0 0 17 [.ref 66, .int x0, .int x1, .int (f_248 (I 68 (Int32.toNatClampNeg (18 + x0))) x1), .int 0] [] (N, am_ts T, I, L, am_rs r) Q) from ?_)
  obtain ⟨n17, hw⟩ := hw
  refine sl_247_17 n17 hw (fun o2 o3 hw => ?_)
  · try dsimp only at hw
    refine am_E.run [100] 2000 (show (if o2 = 0 then (((0 : Int32) = 0 ∨ (0 : Int32) = 1) ∧ Q (some (.int 0)) (N, am_ts T, I, L, am_rs r)) else (am_E S 247 (d + 2) 0 0 100 [.ref 66, .int x0, .int x1, .int o2, .int o3] [.int 2, .int x1, .ref 66] (N, am_ts T, I, L, am_rs r) Q)) from ?_)
    by_cases hc : o2 = 0
    · rw [if_pos hc] at hw ⊢
      exact ⟨Or.inl rfl, hK _ hw⟩
    · rw [if_neg hc] at hw ⊢
      refine am_E.go ⟨am_ki_ N T I L r _, s_250 hw (fun q4 hk => ⟨q4, rfl, rfl, hk⟩), ?_⟩
      intro v h9 hv
      obtain ⟨q4, rfl, rfl, hw⟩ := hv
      try dsimp only at hw
      refine am_E.run [] 2000 (show (if q4 = 0 then (((1 : Int32) = 0 ∨ (1 : Int32) = 1) ∧ Q (some (.int 1)) (N, am_ts T, I, L, am_rs r)) else (((0 : Int32) = 0 ∨ (0 : Int32) = 1) ∧ Q (some (.int 0)) (N, am_ts T, I, L, am_rs r))) from ?_)
      by_cases hc : q4 = 0
      · rw [if_pos hc] at hw ⊢
        exact ⟨Or.inr rfl, hK _ hw⟩
      · rw [if_neg hc] at hw ⊢
        exact ⟨Or.inl rfl, hK _ hw⟩
/-- KeyKeepersModel.canGo(II)Z -/
def w_253 (x0 : Int32) (x1 : Int32) (I : am_I) (K : Int32 → Prop) : Prop :=
  ¬ ((10 + x0) < 0 ∨ 5510 ≤ Int32.toNatClampNeg (10 + x0)) ∧
  w_254 (I 68 (Int32.toNatClampNeg (10 + x0))) x1 I (fun q1 =>
    if q1 = 0 then
      K 0
    else
      w_247 x0 x1 I (fun q2 =>
        if q2 = 0 then
          K 0
        else
          K 1))
set_option maxRecDepth 100000 in
theorem s_253 {S : am_S} {d : Nat} {N : Nat} {T : Nat → Nat × Nat} {I : am_I} {L : am_J} {r : Nat → Nat → Option Nat} {Q : am_Q} {x0 : Int32} {x1 : Int32} {K : Int32 → Prop} (hw : w_253 x0 x1 I K) (hK : ∀ (q : Int32), K q → Q (some (.int q)) (N, am_ts T, I, L, am_rs r)) : am_E S 253 (d + 3) 0 0 0 [.ref 66, .int x0, .int x1] [] (N, am_ts T, I, L, am_rs r) Q := by
  unfold w_253 at hw
  try dsimp only at hw
  refine am_E.run [11] 2000 (show (if (10 + x0) < 0 ∨ 5510 ≤ Int32.toNatClampNeg (10 + x0) then False else (am_E S 253 (d + 3) 0 0 11 [.ref 66, .int x0, .int x1] [.int x1, .int (I 68 (Int32.toNatClampNeg (10 + x0))), .ref 66] (N, am_ts T, I, L, am_rs r) Q)) from ?_)
  refine am_ifn hw.1 ?_
  replace hw := hw.2
  refine am_E.go ⟨am_ki_ N T I L r _, s_254 hw (fun q1 hk => ⟨q1, rfl, rfl, hk⟩), ?_⟩
  intro v h9 hv
  obtain ⟨q1, rfl, rfl, hw⟩ := hv
  try dsimp only at hw
  refine am_E.run [20] 2000 (show (if q1 = 0 then (((0 : Int32) = 0 ∨ (0 : Int32) = 1) ∧ Q (some (.int 0)) (N, am_ts T, I, L, am_rs r)) else (am_E S 253 (d + 3) 0 0 20 [.ref 66, .int x0, .int x1] [.int x1, .int x0, .ref 66] (N, am_ts T, I, L, am_rs r) Q)) from ?_)
  by_cases hc : q1 = 0
  · rw [if_pos hc] at hw ⊢
    exact ⟨Or.inl rfl, hK _ hw⟩
  · rw [if_neg hc] at hw ⊢
    refine am_E.go ⟨am_ki_ N T I L r _, s_247 hw (fun q2 hk => ⟨q2, rfl, rfl, hk⟩), ?_⟩
    intro v h9 hv
    obtain ⟨q2, rfl, rfl, hw⟩ := hv
    try dsimp only at hw
    refine am_E.run [] 2000 (show (if q2 = 0 then (((0 : Int32) = 0 ∨ (0 : Int32) = 1) ∧ Q (some (.int 0)) (N, am_ts T, I, L, am_rs r)) else (((1 : Int32) = 0 ∨ (1 : Int32) = 1) ∧ Q (some (.int 1)) (N, am_ts T, I, L, am_rs r))) from ?_)
    by_cases hc : q2 = 0
    · rw [if_pos hc] at hw ⊢
      exact ⟨Or.inl rfl, hK _ hw⟩
    · rw [if_neg hc] at hw ⊢
      exact ⟨Or.inr rfl, hK _ hw⟩
def lw_255_11 : Nat → Int32 → Int32 → am_I → (Int32 → am_I → Prop) → Prop
  | 0, _, _, _, _ => False
  | n + 1, v1, v2, I, E0 =>
    if (315 : Int32) ≤ v2 then
      E0 v2 I
    else
      ¬ ((v2 + 21) < 0 ∨ 378 ≤ Int32.toNatClampNeg (v2 + 21)) ∧
      ¬ (v2 < 0 ∨ 378 ≤ Int32.toNatClampNeg v2) ∧
      lw_255_11 n v1 (v2 + 1) (am_u I 71 (Int32.toNatClampNeg v2) (I 71 (Int32.toNatClampNeg (v2 + 21)))) E0
set_option maxRecDepth 100000 in
theorem sl_255_11 {S : am_S} {d : Nat} {Q : am_Q} {N : Nat} {T : Nat → Nat × Nat} {L : am_J} {r : Nat → Nat → Option Nat} {E0 : Int32 → am_I → Prop} : ∀ (n : Nat) {v1 : Int32} {v2 : Int32} {I : am_I}, lw_255_11 n v1 v2 I E0 → (∀ (o2 : Int32) (I1 : am_I), E0 o2 I1 → am_E S 255 (d + 1) 0 0 39 [.ref 66, .int v1, .int o2] [] (N, am_ts T, I1, L, am_rs r) Q) → am_E S 255 (d + 1) 0 0 11 [.ref 66, .int v1, .int v2] [] (N, am_ts T, I, L, am_rs r) Q
  | 0, _, _, _, hw, _ => hw.elim
  | n + 1, v1, v2, I, hw, hE0 => by
    have ih := @sl_255_11 S d Q N T L r E0 n
    unfold lw_255_11 at hw
    try dsimp only at hw
    refine am_E.run [11, 39] 2000 (show (if (315 : Int32) ≤ v2 then (am_E S 255 (d + 1) 0 0 39 [.ref 66, .int v1, .int v2] [] (N, am_ts T, I, L, am_rs r) Q) else (if (v2 + 21) < 0 ∨ 378 ≤ Int32.toNatClampNeg (v2 + 21) then False else (if v2 < 0 ∨ 378 ≤ Int32.toNatClampNeg v2 then False else (am_E S 255 (d + 1) 0 0 11 [.ref 66, .int v1, .int (v2 + 1)] [] (N, am_ts T, (am_u I 71 (Int32.toNatClampNeg v2) (I 71 (Int32.toNatClampNeg (v2 + 21)))), L, am_rs r) Q)))) from ?_)
    by_cases hc : (315 : Int32) ≤ v2
    · rw [if_pos hc] at hw ⊢
      exact hE0 _ _ hw
    · rw [if_neg hc] at hw ⊢
      refine am_ifn hw.1 ?_
      replace hw := hw.2
      refine am_ifn hw.1 ?_
      replace hw := hw.2
      exact ih hw hE0
def lw_255_41 : Nat → Int32 → Int32 → am_I → (Int32 → am_I → Prop) → Prop
  | 0, _, _, _, _ => False
  | n + 1, v1, v2, I, E0 =>
    if (15 : Int32) ≤ v2 then
      E0 v2 I
    else
      ¬ ((v2 + 1) < 0 ∨ 16 ≤ Int32.toNatClampNeg (v2 + 1)) ∧
      ¬ (v2 < 0 ∨ 16 ≤ Int32.toNatClampNeg v2) ∧
      lw_255_41 n v1 (v2 + 1) (am_u I 72 (Int32.toNatClampNeg v2) (I 72 (Int32.toNatClampNeg (v2 + 1)))) E0
set_option maxRecDepth 100000 in
theorem sl_255_41 {S : am_S} {d : Nat} {Q : am_Q} {N : Nat} {T : Nat → Nat × Nat} {L : am_J} {r : Nat → Nat → Option Nat} {E0 : Int32 → am_I → Prop} : ∀ (n : Nat) {v1 : Int32} {v2 : Int32} {I : am_I}, lw_255_41 n v1 v2 I E0 → (∀ (o2 : Int32) (I1 : am_I), E0 o2 I1 → am_E S 255 (d + 1) 0 0 67 [.ref 66, .int v1, .int o2] [] (N, am_ts T, I1, L, am_rs r) Q) → am_E S 255 (d + 1) 0 0 41 [.ref 66, .int v1, .int v2] [] (N, am_ts T, I, L, am_rs r) Q
  | 0, _, _, _, hw, _ => hw.elim
  | n + 1, v1, v2, I, hw, hE0 => by
    have ih := @sl_255_41 S d Q N T L r E0 n
    unfold lw_255_41 at hw
    try dsimp only at hw
    refine am_E.run [41, 67] 2000 (show (if (15 : Int32) ≤ v2 then (am_E S 255 (d + 1) 0 0 67 [.ref 66, .int v1, .int v2] [] (N, am_ts T, I, L, am_rs r) Q) else (if (v2 + 1) < 0 ∨ 16 ≤ Int32.toNatClampNeg (v2 + 1) then False else (if v2 < 0 ∨ 16 ≤ Int32.toNatClampNeg v2 then False else (am_E S 255 (d + 1) 0 0 41 [.ref 66, .int v1, .int (v2 + 1)] [] (N, am_ts T, (am_u I 72 (Int32.toNatClampNeg v2) (I 72 (Int32.toNatClampNeg (v2 + 1)))), L, am_rs r) Q)))) from ?_)
    by_cases hc : (15 : Int32) ≤ v2
    · rw [if_pos hc] at hw ⊢
      exact hE0 _ _ hw
    · rw [if_neg hc] at hw ⊢
      refine am_ifn hw.1 ?_
      replace hw := hw.2
      refine am_ifn hw.1 ?_
      replace hw := hw.2
      exact ih hw hE0
/-- KeyKeepersModel.remember(I)V -/
def w_255 (x0 : Int32) (I : am_I) (K : am_I → Prop) : Prop :=
  if (I 66 8) = 16 then
    ∃ n11, lw_255_11 n11 x0 0 I (fun o2 I3 =>
      ∃ n41, lw_255_41 n41 x0 0 I3 (fun o4 I5 =>
        w_256 ((I5 66 8) - 1) (am_u I5 66 8 ((I5 66 8) - 1)) (fun I6 =>
          ¬ ((I6 66 8) < 0 ∨ 16 ≤ Int32.toNatClampNeg (I6 66 8)) ∧
          K (am_u (am_u I6 72 (Int32.toNatClampNeg (I6 66 8)) x0) 66 8 ((I6 66 8) + 1)))))
  else
    w_256 (I 66 8) I (fun I1 =>
      ¬ ((I1 66 8) < 0 ∨ 16 ≤ Int32.toNatClampNeg (I1 66 8)) ∧
      K (am_u (am_u I1 72 (Int32.toNatClampNeg (I1 66 8)) x0) 66 8 ((I1 66 8) + 1)))
set_option maxRecDepth 100000 in
theorem s_255 {S : am_S} {d : Nat} {N : Nat} {T : Nat → Nat × Nat} {I : am_I} {L : am_J} {r : Nat → Nat → Option Nat} {Q : am_Q} {x0 : Int32} {K : am_I → Prop} (hw : w_255 x0 I K) (hK : ∀ (I1 : am_I), K I1 → Q (none) (N, am_ts T, I1, L, am_rs r)) : am_E S 255 (d + 1) 0 0 0 [.ref 66, .int x0, am_jk] [] (N, am_ts T, I, L, am_rs r) Q := by
  unfold w_255 at hw
  try dsimp only at hw
  refine am_E.run [11, 82] 2000 (show (if (I 66 8) = 16 then (am_E S 255 (d + 1) 0 0 11 [.ref 66, .int x0, .int 0] [] (N, am_ts T, I, L, am_rs r) Q) else (am_E S 255 (d + 1) 0 0 82 [.ref 66, .int x0, am_jk] [.int (I 66 8), .ref 66] (N, am_ts T, I, L, am_rs r) Q)) from ?_)
  by_cases hc : (I 66 8) = 16
  · rw [if_pos hc] at hw ⊢
    obtain ⟨n11, hw⟩ := hw
    refine sl_255_11 n11 hw (fun o2 I3 hw => ?_)
    · try dsimp only at hw
      refine am_E.run [41] 2000 (show (am_E S 255 (d + 1) 0 0 41 [.ref 66, .int x0, .int 0] [] (N, am_ts T, I3, L, am_rs r) Q) from ?_)
      obtain ⟨n41, hw⟩ := hw
      refine sl_255_41 n41 hw (fun o4 I5 hw => ?_)
      · try dsimp only at hw
        refine am_E.run [82] 2000 (show (am_E S 255 (d + 1) 0 0 82 [.ref 66, .int x0, .int o4] [.int ((I5 66 8) - 1), .ref 66] (N, am_ts T, (am_u I5 66 8 ((I5 66 8) - 1)), L, am_rs r) Q) from ?_)
        refine am_E.go ⟨am_kv_I N T L r _, s_256 hw (fun I6 hk => ⟨I6, rfl, rfl, hk⟩), ?_⟩
        intro v h9 hv
        obtain ⟨I6, rfl, rfl, hw⟩ := hv
        try dsimp only at hw
        refine am_E.run [] 2000 (show (if (I6 66 8) < 0 ∨ 16 ≤ Int32.toNatClampNeg (I6 66 8) then False else (True ∧ Q (none) (N, am_ts T, (am_u (am_u I6 72 (Int32.toNatClampNeg (I6 66 8)) x0) 66 8 ((I6 66 8) + 1)), L, am_rs r))) from ?_)
        refine am_ifn hw.1 ?_
        replace hw := hw.2
        exact ⟨trivial, hK _ hw⟩
  · rw [if_neg hc] at hw ⊢
    refine am_E.go ⟨am_kv_I N T L r _, s_256 hw (fun I1 hk => ⟨I1, rfl, rfl, hk⟩), ?_⟩
    intro v h9 hv
    obtain ⟨I1, rfl, rfl, hw⟩ := hv
    try dsimp only at hw
    refine am_E.run [] 2000 (show (if (I1 66 8) < 0 ∨ 16 ≤ Int32.toNatClampNeg (I1 66 8) then False else (True ∧ Q (none) (N, am_ts T, (am_u (am_u I1 72 (Int32.toNatClampNeg (I1 66 8)) x0) 66 8 ((I1 66 8) + 1)), L, am_rs r))) from ?_)
    refine am_ifn hw.1 ?_
    replace hw := hw.2
    exact ⟨trivial, hK _ hw⟩
/-- KeyKeepersModel.giveNow(III)I -/
def w_259 (x0 : Int32) (x1 : Int32) (x2 : Int32) (I : am_I) (K : Int32 → am_I → Prop) : Prop :=
  if (f_187 x0 I) = 0 then
    K (-2) I
  else
    if (f_192 x1 I) = 0 then
      K (-2) I
    else
      if (f_192 x2 I) = 0 then
        K (-2) I
      else
        if x1 = x2 then
          K (-3) I
        else
          ¬ ((18 + x1) < 0 ∨ 5510 ≤ Int32.toNatClampNeg (18 + x1)) ∧
          if (f_248 (I 68 (Int32.toNatClampNeg (18 + x1))) x0) = 0 then
            K (-3) I
          else
            ¬ ((10 + x1) < 0 ∨ 5510 ≤ Int32.toNatClampNeg (10 + x1)) ∧
            ¬ ((10 + x2) < 0 ∨ 5510 ≤ Int32.toNatClampNeg (10 + x2)) ∧
            if (I 68 (Int32.toNatClampNeg (10 + x1))) = (I 68 (Int32.toNatClampNeg (10 + x2))) then
              w_249 x1 x2 I (fun q1 =>
                if q1 = 0 then
                  K (-3) I
                else
                  w_255 1 I (fun I2 =>
                    ¬ ((18 + x1) < 0 ∨ 5510 ≤ Int32.toNatClampNeg (18 + x1)) ∧
                    ¬ ((18 + x1) < 0 ∨ 5510 ≤ Int32.toNatClampNeg (18 + x1)) ∧
                    ¬ ((18 + x2) < 0 ∨ 5510 ≤ Int32.toNatClampNeg (18 + x2)) ∧
                    ¬ ((18 + x2) < 0 ∨ 5510 ≤ Int32.toNatClampNeg (18 + x2)) ∧
                    K 0 (am_u (am_u I2 68 (Int32.toNatClampNeg (18 + x1)) ((I2 68 (Int32.toNatClampNeg (18 + x1))) - (1 <<< (x0 &&& 31)))) 68 (Int32.toNatClampNeg (18 + x2)) (((am_u I2 68 (Int32.toNatClampNeg (18 + x1)) ((I2 68 (Int32.toNatClampNeg (18 + x1))) - (1 <<< (x0 &&& 31)))) 68 (Int32.toNatClampNeg (18 + x2))) ||| (1 <<< (x0 &&& 31))))))
            else
              K (-3) I
set_option maxRecDepth 100000 in
theorem s_259 {S : am_S} {d : Nat} {N : Nat} {T : Nat → Nat × Nat} {I : am_I} {L : am_J} {r : Nat → Nat → Option Nat} {Q : am_Q} {x0 : Int32} {x1 : Int32} {x2 : Int32} {K : Int32 → am_I → Prop} (hw : w_259 x0 x1 x2 I K) (hK : ∀ (q : Int32) (I1 : am_I), K q I1 → Q (some (.int q)) (N, am_ts T, I1, L, am_rs r)) : am_E S 259 (d + 2) 0 0 0 [.ref 66, .int x0, .int x1, .int x2] [] (N, am_ts T, I, L, am_rs r) Q := by
  unfold w_259 at hw
  try dsimp only at hw
  refine am_E.run [2] 2000 (show (am_E S 259 (d + 2) 0 0 2 [.ref 66, .int x0, .int x1, .int x2] [.int x0, .ref 66] (N, am_ts T, I, L, am_rs r) Q) from ?_)
  refine am_E.go ⟨fun v h9 => v = some (.int (f_187 x0 I)) ∧ h9 = (N, am_ts T, I, L, am_rs r), s_187 ⟨rfl, rfl⟩, ?_⟩
  intro v h9 hv
  obtain ⟨rfl, rfl⟩ := hv
  refine am_E.run [10] 2000 (show (if (f_187 x0 I) = 0 then (True ∧ Q (some (.int (-2))) (N, am_ts T, I, L, am_rs r)) else (am_E S 259 (d + 2) 0 0 10 [.ref 66, .int x0, .int x1, .int x2] [.int x1, .ref 66] (N, am_ts T, I, L, am_rs r) Q)) from ?_)
  by_cases hc : (f_187 x0 I) = 0
  · rw [if_pos hc] at hw ⊢
    exact ⟨trivial, hK _ _ hw⟩
  · rw [if_neg hc] at hw ⊢
    refine am_E.go ⟨fun v h9 => v = some (.int (f_192 x1 I)) ∧ h9 = (N, am_ts T, I, L, am_rs r), s_192 ⟨rfl, rfl⟩, ?_⟩
    intro v h9 hv
    obtain ⟨rfl, rfl⟩ := hv
    refine am_E.run [18] 2000 (show (if (f_192 x1 I) = 0 then (True ∧ Q (some (.int (-2))) (N, am_ts T, I, L, am_rs r)) else (am_E S 259 (d + 2) 0 0 18 [.ref 66, .int x0, .int x1, .int x2] [.int x2, .ref 66] (N, am_ts T, I, L, am_rs r) Q)) from ?_)
    by_cases hc : (f_192 x1 I) = 0
    · rw [if_pos hc] at hw ⊢
      exact ⟨trivial, hK _ _ hw⟩
    · rw [if_neg hc] at hw ⊢
      refine am_E.go ⟨fun v h9 => v = some (.int (f_192 x2 I)) ∧ h9 = (N, am_ts T, I, L, am_rs r), s_192 ⟨rfl, rfl⟩, ?_⟩
      intro v h9 hv
      obtain ⟨rfl, rfl⟩ := hv
      refine am_E.run [42] 2000 (show (if (f_192 x2 I) = 0 then (True ∧ Q (some (.int (-2))) (N, am_ts T, I, L, am_rs r)) else (if x1 = x2 then (True ∧ Q (some (.int (-3))) (N, am_ts T, I, L, am_rs r)) else (if (18 + x1) < 0 ∨ 5510 ≤ Int32.toNatClampNeg (18 + x1) then False else (am_E S 259 (d + 2) 0 0 42 [.ref 66, .int x0, .int x1, .int x2] [.int x0, .int (I 68 (Int32.toNatClampNeg (18 + x1)))] (N, am_ts T, I, L, am_rs r) Q)))) from ?_)
      by_cases hc : (f_192 x2 I) = 0
      · rw [if_pos hc] at hw ⊢
        exact ⟨trivial, hK _ _ hw⟩
      · rw [if_neg hc] at hw ⊢
        by_cases hc : x1 = x2
        · rw [if_pos hc] at hw ⊢
          exact ⟨trivial, hK _ _ hw⟩
        · rw [if_neg hc] at hw ⊢
          refine am_ifn hw.1 ?_
          replace hw := hw.2
          refine am_E.go ⟨fun v h9 => v = some (.int (f_248 (I 68 (Int32.toNatClampNeg (18 + x1))) x0)) ∧ h9 = (N, am_ts T, I, L, am_rs r), s_248 ⟨rfl, rfl⟩, ?_⟩
          intro v h9 hv
          obtain ⟨rfl, rfl⟩ := hv
          refine am_E.run [72] 2000 (show (if (f_248 (I 68 (Int32.toNatClampNeg (18 + x1))) x0) = 0 then (True ∧ Q (some (.int (-3))) (N, am_ts T, I, L, am_rs r)) else (if (10 + x1) < 0 ∨ 5510 ≤ Int32.toNatClampNeg (10 + x1) then False else (if (10 + x2) < 0 ∨ 5510 ≤ Int32.toNatClampNeg (10 + x2) then False else (if (I 68 (Int32.toNatClampNeg (10 + x1))) = (I 68 (Int32.toNatClampNeg (10 + x2))) then (am_E S 259 (d + 2) 0 0 72 [.ref 66, .int x0, .int x1, .int x2] [.int x2, .int x1, .ref 66] (N, am_ts T, I, L, am_rs r) Q) else (True ∧ Q (some (.int (-3))) (N, am_ts T, I, L, am_rs r)))))) from ?_)
          by_cases hc : (f_248 (I 68 (Int32.toNatClampNeg (18 + x1))) x0) = 0
          · rw [if_pos hc] at hw ⊢
            exact ⟨trivial, hK _ _ hw⟩
          · rw [if_neg hc] at hw ⊢
            refine am_ifn hw.1 ?_
            replace hw := hw.2
            refine am_ifn hw.1 ?_
            replace hw := hw.2
            by_cases hc : (I 68 (Int32.toNatClampNeg (10 + x1))) = (I 68 (Int32.toNatClampNeg (10 + x2)))
            · rw [if_pos hc] at hw ⊢
              refine am_E.go ⟨am_ki_ N T I L r _, s_249 hw (fun q1 hk => ⟨q1, rfl, rfl, hk⟩), ?_⟩
              intro v h9 hv
              obtain ⟨q1, rfl, rfl, hw⟩ := hv
              try dsimp only at hw
              refine am_E.run [83] 2000 (show (if q1 = 0 then (True ∧ Q (some (.int (-3))) (N, am_ts T, I, L, am_rs r)) else (am_E S 259 (d + 2) 0 0 83 [.ref 66, .int x0, .int x1, .int x2] [.int 1, .ref 66] (N, am_ts T, I, L, am_rs r) Q)) from ?_)
              by_cases hc : q1 = 0
              · rw [if_pos hc] at hw ⊢
                exact ⟨trivial, hK _ _ hw⟩
              · rw [if_neg hc] at hw ⊢
                refine am_E.go ⟨am_kv_I N T L r _, s_255 hw (fun I2 hk => ⟨I2, rfl, rfl, hk⟩), ?_⟩
                intro v h9 hv
                obtain ⟨I2, rfl, rfl, hw⟩ := hv
                try dsimp only at hw
                refine am_E.run [] 2000 (show (if (18 + x1) < 0 ∨ 5510 ≤ Int32.toNatClampNeg (18 + x1) then False else (if (18 + x1) < 0 ∨ 5510 ≤ Int32.toNatClampNeg (18 + x1) then False else (if (18 + x2) < 0 ∨ 5510 ≤ Int32.toNatClampNeg (18 + x2) then False else (if (18 + x2) < 0 ∨ 5510 ≤ Int32.toNatClampNeg (18 + x2) then False else (True ∧ Q (some (.int 0)) (N, am_ts T, (am_u (am_u I2 68 (Int32.toNatClampNeg (18 + x1)) ((I2 68 (Int32.toNatClampNeg (18 + x1))) - (1 <<< (x0 &&& 31)))) 68 (Int32.toNatClampNeg (18 + x2)) (((am_u I2 68 (Int32.toNatClampNeg (18 + x1)) ((I2 68 (Int32.toNatClampNeg (18 + x1))) - (1 <<< (x0 &&& 31)))) 68 (Int32.toNatClampNeg (18 + x2))) ||| (1 <<< (x0 &&& 31)))), L, am_rs r)))))) from ?_)
                refine am_ifn hw.1 ?_
                replace hw := hw.2
                refine am_ifn hw.1 ?_
                replace hw := hw.2
                refine am_ifn hw.1 ?_
                replace hw := hw.2
                refine am_ifn hw.1 ?_
                replace hw := hw.2
                exact ⟨trivial, hK _ _ hw⟩
            · rw [if_neg hc] at hw ⊢
              exact ⟨trivial, hK _ _ hw⟩
/-- KeyKeepersModel.inspectIt()I -/
def w_262 (I : am_I) (K : Int32 → am_I → Prop) : Prop :=
  w_263 I (fun q1 =>
    if q1 = (I 68 1) then
      K q1 (am_u I 68 9 (f_241 ((Int32.toInt64 (I 68 9)) + (2 * (Int32.toInt64 q1))) 0 99999))
    else
      K q1 (am_u I 68 9 (f_241 ((Int32.toInt64 (I 68 9)) + (Int32.toInt64 q1)) 0 99999)))
set_option maxRecDepth 100000 in
theorem s_262 {S : am_S} {d : Nat} {N : Nat} {T : Nat → Nat × Nat} {I : am_I} {L : am_J} {r : Nat → Nat → Option Nat} {Q : am_Q} {K : Int32 → am_I → Prop} (hw : w_262 I K) (hK : ∀ (q : Int32) (I1 : am_I), K q I1 → Q (some (.int q)) (N, am_ts T, I1, L, am_rs r)) : am_E S 262 (d + 1) 0 0 0 [.ref 66, am_jk] [] (N, am_ts T, I, L, am_rs r) Q := by
  unfold w_262 at hw
  try dsimp only at hw
  refine am_E.run [1] 2000 (show (am_E S 262 (d + 1) 0 0 1 [.ref 66, am_jk] [.ref 66] (N, am_ts T, I, L, am_rs r) Q) from ?_)
  refine am_E.go ⟨am_ki_ N T I L r _, s_263 hw (fun q1 hk => ⟨q1, rfl, rfl, hk⟩), ?_⟩
  intro v h9 hv
  obtain ⟨q1, rfl, rfl, hw⟩ := hv
  try dsimp only at hw
  refine am_E.run [45] 2000 (show (if q1 = (I 68 1) then (am_E S 262 (d + 1) 0 0 45 [.ref 66, .int q1] [.int 99999, .int 0, .long ((Int32.toInt64 (I 68 9)) + (2 * (Int32.toInt64 q1))), .int 9, .ref 68] (N, am_ts T, I, L, am_rs r) Q) else (am_E S 262 (d + 1) 0 0 45 [.ref 66, .int q1] [.int 99999, .int 0, .long ((Int32.toInt64 (I 68 9)) + (Int32.toInt64 q1)), .int 9, .ref 68] (N, am_ts T, I, L, am_rs r) Q)) from ?_)
  by_cases hc : q1 = (I 68 1)
  · rw [if_pos hc] at hw ⊢
    refine am_E.go ⟨fun v h9 => v = some (.int (f_241 ((Int32.toInt64 (I 68 9)) + (2 * (Int32.toInt64 q1))) 0 99999)) ∧ h9 = (N, am_ts T, I, L, am_rs r), s_241 ⟨rfl, rfl⟩, ?_⟩
    intro v h9 hv
    obtain ⟨rfl, rfl⟩ := hv
    refine am_E.run [] 2000 (show (True ∧ Q (some (.int q1)) (N, am_ts T, (am_u I 68 9 (f_241 ((Int32.toInt64 (I 68 9)) + (2 * (Int32.toInt64 q1))) 0 99999)), L, am_rs r)) from ?_)
    exact ⟨trivial, hK _ _ hw⟩
  · rw [if_neg hc] at hw ⊢
    refine am_E.go ⟨fun v h9 => v = some (.int (f_241 ((Int32.toInt64 (I 68 9)) + (Int32.toInt64 q1)) 0 99999)) ∧ h9 = (N, am_ts T, I, L, am_rs r), s_241 ⟨rfl, rfl⟩, ?_⟩
    intro v h9 hv
    obtain ⟨rfl, rfl⟩ := hv
    refine am_E.run [] 2000 (show (True ∧ Q (some (.int q1)) (N, am_ts T, (am_u I 68 9 (f_241 ((Int32.toInt64 (I 68 9)) + (Int32.toInt64 q1)) 0 99999)), L, am_rs r)) from ?_)
    exact ⟨trivial, hK _ _ hw⟩
/-- KeyKeepersModel.passNow()I -/
def w_265 (I : am_I) (K : Int32 → am_I → Prop) : Prop :=
  w_237 0 I (fun q1 =>
    if q1 = 9999 then
      K (-3) I
    else
      w_255 3 I (fun I2 =>
        w_237 0 (am_u I2 68 5 ((I2 68 5) + 1)) (fun q3 =>
          K q3 (am_u I2 68 5 ((I2 68 5) + 1)))))
set_option maxRecDepth 100000 in
theorem s_265 {S : am_S} {d : Nat} {N : Nat} {T : Nat → Nat × Nat} {I : am_I} {L : am_J} {r : Nat → Nat → Option Nat} {Q : am_Q} {K : Int32 → am_I → Prop} (hw : w_265 I K) (hK : ∀ (q : Int32) (I1 : am_I), K q I1 → Q (some (.int q)) (N, am_ts T, I1, L, am_rs r)) : am_E S 265 (d + 2) 0 0 0 [.ref 66] [] (N, am_ts T, I, L, am_rs r) Q := by
  unfold w_265 at hw
  try dsimp only at hw
  refine am_E.run [2] 2000 (show (am_E S 265 (d + 2) 0 0 2 [.ref 66] [.int 0, .ref 66] (N, am_ts T, I, L, am_rs r) Q) from ?_)
  refine am_E.go ⟨am_ki_ N T I L r _, s_237 hw (fun q1 hk => ⟨q1, rfl, rfl, hk⟩), ?_⟩
  intro v h9 hv
  obtain ⟨q1, rfl, rfl, hw⟩ := hv
  try dsimp only at hw
  refine am_E.run [16] 2000 (show (if q1 = 9999 then (True ∧ Q (some (.int (-3))) (N, am_ts T, I, L, am_rs r)) else (am_E S 265 (d + 2) 0 0 16 [.ref 66] [.int 3, .ref 66] (N, am_ts T, I, L, am_rs r) Q)) from ?_)
  by_cases hc : q1 = 9999
  · rw [if_pos hc] at hw ⊢
    exact ⟨trivial, hK _ _ hw⟩
  · rw [if_neg hc] at hw ⊢
    refine am_E.go ⟨am_kv_I N T L r _, s_255 hw (fun I2 hk => ⟨I2, rfl, rfl, hk⟩), ?_⟩
    intro v h9 hv
    obtain ⟨I2, rfl, rfl, hw⟩ := hv
    try dsimp only at hw
    refine am_E.run [31] 2000 (show (am_E S 265 (d + 2) 0 0 31 [.ref 66] [.int 0, .ref 66] (N, am_ts T, (am_u I2 68 5 ((I2 68 5) + 1)), L, am_rs r) Q) from ?_)
    refine am_E.go ⟨am_ki_ N T (am_u I2 68 5 ((I2 68 5) + 1)) L r _, s_237 hw (fun q3 hk => ⟨q3, rfl, rfl, hk⟩), ?_⟩
    intro v h9 hv
    obtain ⟨q3, rfl, rfl, hw⟩ := hv
    try dsimp only at hw
    refine am_E.run [] 2000 (show (True ∧ Q (some (.int q3)) (N, am_ts T, (am_u I2 68 5 ((I2 68 5) + 1)), L, am_rs r)) from ?_)
    exact ⟨trivial, hK _ _ hw⟩
def lw_267_9 : Nat → Int32 → Int32 → Int32 → Int32 → am_I → (Int32 → am_I → Prop) → Prop
  | 0, _, _, _, _, _, _ => False
  | n + 1, v1, v2, v3, v4, I, E0 =>
    if (10 : Int32) ≤ v4 then
      E0 v4 I
    else
      ¬ ((10 + v1) < 0 ∨ 5510 ≤ Int32.toNatClampNeg (10 + v1)) ∧
      if v4 = (I 68 (Int32.toNatClampNeg (10 + v1))) then
        ¬ (v4 < 0 ∨ 10 ≤ Int32.toNatClampNeg v4) ∧
        lw_267_9 n v1 v2 v3 (v4 + 1) (am_u I 87 (Int32.toNatClampNeg v4) 0) E0
      else
        ¬ (v4 < 0 ∨ 10 ≤ Int32.toNatClampNeg v4) ∧
        lw_267_9 n v1 v2 v3 (v4 + 1) (am_u I 87 (Int32.toNatClampNeg v4) 100000000) E0
set_option maxRecDepth 100000 in
theorem sl_267_9 {S : am_S} {d : Nat} {Q : am_Q} {N : Nat} {T : Nat → Nat × Nat} {L : am_J} {r : Nat → Nat → Option Nat} {E0 : Int32 → am_I → Prop} : ∀ (n : Nat) {v1 : Int32} {v2 : Int32} {v3 : Int32} {v4 : Int32} {I : am_I}, lw_267_9 n v1 v2 v3 v4 I E0 → (∀ (o4 : Int32) (I1 : am_I), E0 o4 I1 → am_E S 267 (d + 3) 0 0 50 [.ref 66, .int v1, .int v2, .int v3, .int o4, am_jk, am_jk, am_jk] [] (N, am_ts T, I1, L, am_rs r) Q) → am_E S 267 (d + 3) 0 0 9 [.ref 66, .int v1, .int v2, .int v3, .int v4, am_jk, am_jk, am_jk] [] (N, am_ts T, I, L, am_rs r) Q
  | 0, _, _, _, _, _, hw, _ => hw.elim
  | n + 1, v1, v2, v3, v4, I, hw, hE0 => by
    have ih := @sl_267_9 S d Q N T L r E0 n
    unfold lw_267_9 at hw
    try dsimp only at hw
    refine am_E.run [9, 50] 2000 (show (if (10 : Int32) ≤ v4 then (am_E S 267 (d + 3) 0 0 50 [.ref 66, .int v1, .int v2, .int v3, .int v4, am_jk, am_jk, am_jk] [] (N, am_ts T, I, L, am_rs r) Q) else (if (10 + v1) < 0 ∨ 5510 ≤ Int32.toNatClampNeg (10 + v1) then False else (if v4 = (I 68 (Int32.toNatClampNeg (10 + v1))) then (if v4 < 0 ∨ 10 ≤ Int32.toNatClampNeg v4 then False else (am_E S 267 (d + 3) 0 0 9 [.ref 66, .int v1, .int v2, .int v3, .int (v4 + 1), am_jk, am_jk, am_jk] [] (N, am_ts T, (am_u I 87 (Int32.toNatClampNeg v4) 0), L, am_rs r) Q)) else (if v4 < 0 ∨ 10 ≤ Int32.toNatClampNeg v4 then False else (am_E S 267 (d + 3) 0 0 9 [.ref 66, .int v1, .int v2, .int v3, .int (v4 + 1), am_jk, am_jk, am_jk] [] (N, am_ts T, (am_u I 87 (Int32.toNatClampNeg v4) 100000000), L, am_rs r) Q))))) from ?_)
    by_cases hc : (10 : Int32) ≤ v4
    · rw [if_pos hc] at hw ⊢
      exact hE0 _ _ hw
    · rw [if_neg hc] at hw ⊢
      refine am_ifn hw.1 ?_
      replace hw := hw.2
      by_cases hc : v4 = (I 68 (Int32.toNatClampNeg (10 + v1)))
      · rw [if_pos hc] at hw ⊢
        refine am_ifn hw.1 ?_
        replace hw := hw.2
        exact ih hw hE0
      · rw [if_neg hc] at hw ⊢
        refine am_ifn hw.1 ?_
        replace hw := hw.2
        exact ih hw hE0
def lw_267_63 : Nat → Int32 → Int32 → Int32 → Int32 → am_I → (Int32 → am_I → Prop) → Prop
  | 0, _, _, _, _, _, _ => False
  | n + 1, v2, v3, v4, v5, I, E0 =>
    if (I 68 0) ≤ v5 then
      E0 v5 I
    else
      if (f_248 v3 v5) = 0 then
        lw_267_63 n v2 v3 v4 (v5 + 1) I E0
      else
        if (f_248 v2 v5) = 0 then
          w_250 v5 2 I (fun q4 =>
            if q4 = 0 then
              w_250 v5 0 I (fun q5 =>
                w_250 v5 1 I (fun q6 =>
                  ¬ (q5 < 0 ∨ 10 ≤ Int32.toNatClampNeg q5) ∧
                  if (I 87 (Int32.toNatClampNeg q5)) = (v4 - 1) then
                    ¬ (q6 < 0 ∨ 10 ≤ Int32.toNatClampNeg q6) ∧
                    if (I 87 (Int32.toNatClampNeg q6)) = 100000000 then
                      ¬ (q6 < 0 ∨ 10 ≤ Int32.toNatClampNeg q6) ∧
                      ¬ (q6 < 0 ∨ 10 ≤ Int32.toNatClampNeg q6) ∧
                      if ((am_u I 87 (Int32.toNatClampNeg q6) v4) 87 (Int32.toNatClampNeg q6)) = (v4 - 1) then
                        ¬ (q5 < 0 ∨ 10 ≤ Int32.toNatClampNeg q5) ∧
                        if ((am_u I 87 (Int32.toNatClampNeg q6) v4) 87 (Int32.toNatClampNeg q5)) = 100000000 then
                          ¬ (q5 < 0 ∨ 10 ≤ Int32.toNatClampNeg q5) ∧
                          lw_267_63 n v2 v3 v4 (v5 + 1) (am_u (am_u I 87 (Int32.toNatClampNeg q6) v4) 87 (Int32.toNatClampNeg q5) v4) E0
                        else
                          ¬ (q5 < 0 ∨ 10 ≤ Int32.toNatClampNeg q5) ∧
                          ¬ (q5 < 0 ∨ 10 ≤ Int32.toNatClampNeg q5) ∧
                          lw_267_63 n v2 v3 v4 (v5 + 1) (am_u (am_u I 87 (Int32.toNatClampNeg q6) v4) 87 (Int32.toNatClampNeg q5) ((am_u I 87 (Int32.toNatClampNeg q6) v4) 87 (Int32.toNatClampNeg q5))) E0
                      else
                        ¬ (q5 < 0 ∨ 10 ≤ Int32.toNatClampNeg q5) ∧
                        ¬ (q5 < 0 ∨ 10 ≤ Int32.toNatClampNeg q5) ∧
                        lw_267_63 n v2 v3 v4 (v5 + 1) (am_u (am_u I 87 (Int32.toNatClampNeg q6) v4) 87 (Int32.toNatClampNeg q5) ((am_u I 87 (Int32.toNatClampNeg q6) v4) 87 (Int32.toNatClampNeg q5))) E0
                    else
                      ¬ (q6 < 0 ∨ 10 ≤ Int32.toNatClampNeg q6) ∧
                      ¬ (q6 < 0 ∨ 10 ≤ Int32.toNatClampNeg q6) ∧
                      ¬ (q6 < 0 ∨ 10 ≤ Int32.toNatClampNeg q6) ∧
                      if ((am_u I 87 (Int32.toNatClampNeg q6) (I 87 (Int32.toNatClampNeg q6))) 87 (Int32.toNatClampNeg q6)) = (v4 - 1) then
                        ¬ (q5 < 0 ∨ 10 ≤ Int32.toNatClampNeg q5) ∧
                        if ((am_u I 87 (Int32.toNatClampNeg q6) (I 87 (Int32.toNatClampNeg q6))) 87 (Int32.toNatClampNeg q5)) = 100000000 then
                          ¬ (q5 < 0 ∨ 10 ≤ Int32.toNatClampNeg q5) ∧
                          lw_267_63 n v2 v3 v4 (v5 + 1) (am_u (am_u I 87 (Int32.toNatClampNeg q6) (I 87 (Int32.toNatClampNeg q6))) 87 (Int32.toNatClampNeg q5) v4) E0
                        else
                          ¬ (q5 < 0 ∨ 10 ≤ Int32.toNatClampNeg q5) ∧
                          ¬ (q5 < 0 ∨ 10 ≤ Int32.toNatClampNeg q5) ∧
                          lw_267_63 n v2 v3 v4 (v5 + 1) (am_u (am_u I 87 (Int32.toNatClampNeg q6) (I 87 (Int32.toNatClampNeg q6))) 87 (Int32.toNatClampNeg q5) ((am_u I 87 (Int32.toNatClampNeg q6) (I 87 (Int32.toNatClampNeg q6))) 87 (Int32.toNatClampNeg q5))) E0
                      else
                        ¬ (q5 < 0 ∨ 10 ≤ Int32.toNatClampNeg q5) ∧
                        ¬ (q5 < 0 ∨ 10 ≤ Int32.toNatClampNeg q5) ∧
                        lw_267_63 n v2 v3 v4 (v5 + 1) (am_u (am_u I 87 (Int32.toNatClampNeg q6) (I 87 (Int32.toNatClampNeg q6))) 87 (Int32.toNatClampNeg q5) ((am_u I 87 (Int32.toNatClampNeg q6) (I 87 (Int32.toNatClampNeg q6))) 87 (Int32.toNatClampNeg q5))) E0
                  else
                    ¬ (q6 < 0 ∨ 10 ≤ Int32.toNatClampNeg q6) ∧
                    ¬ (q6 < 0 ∨ 10 ≤ Int32.toNatClampNeg q6) ∧
                    ¬ (q6 < 0 ∨ 10 ≤ Int32.toNatClampNeg q6) ∧
                    if ((am_u I 87 (Int32.toNatClampNeg q6) (I 87 (Int32.toNatClampNeg q6))) 87 (Int32.toNatClampNeg q6)) = (v4 - 1) then
                      ¬ (q5 < 0 ∨ 10 ≤ Int32.toNatClampNeg q5) ∧
                      if ((am_u I 87 (Int32.toNatClampNeg q6) (I 87 (Int32.toNatClampNeg q6))) 87 (Int32.toNatClampNeg q5)) = 100000000 then
                        ¬ (q5 < 0 ∨ 10 ≤ Int32.toNatClampNeg q5) ∧
                        lw_267_63 n v2 v3 v4 (v5 + 1) (am_u (am_u I 87 (Int32.toNatClampNeg q6) (I 87 (Int32.toNatClampNeg q6))) 87 (Int32.toNatClampNeg q5) v4) E0
                      else
                        ¬ (q5 < 0 ∨ 10 ≤ Int32.toNatClampNeg q5) ∧
                        ¬ (q5 < 0 ∨ 10 ≤ Int32.toNatClampNeg q5) ∧
                        lw_267_63 n v2 v3 v4 (v5 + 1) (am_u (am_u I 87 (Int32.toNatClampNeg q6) (I 87 (Int32.toNatClampNeg q6))) 87 (Int32.toNatClampNeg q5) ((am_u I 87 (Int32.toNatClampNeg q6) (I 87 (Int32.toNatClampNeg q6))) 87 (Int32.toNatClampNeg q5))) E0
                    else
                      ¬ (q5 < 0 ∨ 10 ≤ Int32.toNatClampNeg q5) ∧
                      ¬ (q5 < 0 ∨ 10 ≤ Int32.toNatClampNeg q5) ∧
                      lw_267_63 n v2 v3 v4 (v5 + 1) (am_u (am_u I 87 (Int32.toNatClampNeg q6) (I 87 (Int32.toNatClampNeg q6))) 87 (Int32.toNatClampNeg q5) ((am_u I 87 (Int32.toNatClampNeg q6) (I 87 (Int32.toNatClampNeg q6))) 87 (Int32.toNatClampNeg q5))) E0))
            else
              lw_267_63 n v2 v3 v4 (v5 + 1) I E0)
        else
          lw_267_63 n v2 v3 v4 (v5 + 1) I E0
set_option maxRecDepth 100000 in
theorem sl_267_63 {S : am_S} {d : Nat} {Q : am_Q} {N : Nat} {T : Nat → Nat × Nat} {L : am_J} {r : Nat → Nat → Option Nat} {E0 : Int32 → am_I → Prop} : ∀ (n : Nat) {v2 : Int32} {v3 : Int32} {v4 : Int32} {v5 : Int32} {I : am_I}, lw_267_63 n v2 v3 v4 v5 I E0 → (∀ (o5 : Int32) (I1 : am_I), E0 o5 I1 → am_E S 267 (d + 3) 0 0 218 [.ref 66, am_jk, .int v2, .int v3, .int v4, .int o5, am_jk, am_jk] [] (N, am_ts T, I1, L, am_rs r) Q) → am_E S 267 (d + 3) 0 0 63 [.ref 66, am_jk, .int v2, .int v3, .int v4, .int v5, am_jk, am_jk] [] (N, am_ts T, I, L, am_rs r) Q
  | 0, _, _, _, _, _, hw, _ => hw.elim
  | n + 1, v2, v3, v4, v5, I, hw, hE0 => by
    have ih := @sl_267_63 S d Q N T L r E0 n
    unfold lw_267_63 at hw
    try dsimp only at hw
    refine am_E.run [77, 218] 2000 (show (if (I 68 0) ≤ v5 then (am_E S 267 (d + 3) 0 0 218 [.ref 66, am_jk, .int v2, .int v3, .int v4, .int v5, am_jk, am_jk] [] (N, am_ts T, I, L, am_rs r) Q) else (am_E S 267 (d + 3) 0 0 77 [.ref 66, am_jk, .int v2, .int v3, .int v4, .int v5, am_jk, am_jk] [.int v5, .int v3] (N, am_ts T, I, L, am_rs r) Q)) from ?_)
    by_cases hc : (I 68 0) ≤ v5
    · rw [if_pos hc] at hw ⊢
      exact hE0 _ _ hw
    · rw [if_neg hc] at hw ⊢
      refine am_E.go ⟨fun v h9 => v = some (.int (f_248 v3 v5)) ∧ h9 = (N, am_ts T, I, L, am_rs r), s_248 ⟨rfl, rfl⟩, ?_⟩
      intro v h9 hv
      obtain ⟨rfl, rfl⟩ := hv
      refine am_E.run [63, 86] 2000 (show (if (f_248 v3 v5) = 0 then (am_E S 267 (d + 3) 0 0 63 [.ref 66, am_jk, .int v2, .int v3, .int v4, .int (v5 + 1), am_jk, am_jk] [] (N, am_ts T, I, L, am_rs r) Q) else (am_E S 267 (d + 3) 0 0 86 [.ref 66, am_jk, .int v2, .int v3, .int v4, .int v5, am_jk, am_jk] [.int v5, .int v2] (N, am_ts T, I, L, am_rs r) Q)) from ?_)
      by_cases hc : (f_248 v3 v5) = 0
      · rw [if_pos hc] at hw ⊢
        exact ih hw hE0
      · rw [if_neg hc] at hw ⊢
        refine am_E.go ⟨fun v h9 => v = some (.int (f_248 v2 v5)) ∧ h9 = (N, am_ts T, I, L, am_rs r), s_248 ⟨rfl, rfl⟩, ?_⟩
        intro v h9 hv
        obtain ⟨rfl, rfl⟩ := hv
        refine am_E.run [63, 96] 2000 (show (if (f_248 v2 v5) = 0 then (am_E S 267 (d + 3) 0 0 96 [.ref 66, am_jk, .int v2, .int v3, .int v4, .int v5, am_jk, am_jk] [.int 2, .int v5, .ref 66] (N, am_ts T, I, L, am_rs r) Q) else (am_E S 267 (d + 3) 0 0 63 [.ref 66, am_jk, .int v2, .int v3, .int v4, .int (v5 + 1), am_jk, am_jk] [] (N, am_ts T, I, L, am_rs r) Q)) from ?_)
        by_cases hc : (f_248 v2 v5) = 0
        · rw [if_pos hc] at hw ⊢
          refine am_E.go ⟨am_ki_ N T I L r _, s_250 hw (fun q4 hk => ⟨q4, rfl, rfl, hk⟩), ?_⟩
          intro v h9 hv
          obtain ⟨q4, rfl, rfl, hw⟩ := hv
          try dsimp only at hw
          refine am_E.run [63, 106] 2000 (show (if q4 = 0 then (am_E S 267 (d + 3) 0 0 106 [.ref 66, am_jk, .int v2, .int v3, .int v4, .int v5, am_jk, am_jk] [.int 0, .int v5, .ref 66] (N, am_ts T, I, L, am_rs r) Q) else (am_E S 267 (d + 3) 0 0 63 [.ref 66, am_jk, .int v2, .int v3, .int v4, .int (v5 + 1), am_jk, am_jk] [] (N, am_ts T, I, L, am_rs r) Q)) from ?_)
          by_cases hc : q4 = 0
          · rw [if_pos hc] at hw ⊢
            refine am_E.go ⟨am_ki_ N T I L r _, s_250 hw (fun q5 hk => ⟨q5, rfl, rfl, hk⟩), ?_⟩
            intro v h9 hv
            obtain ⟨q5, rfl, rfl, hw⟩ := hv
            try dsimp only at hw
            refine am_E.run [115] 2000 (show (am_E S 267 (d + 3) 0 0 115 [.ref 66, am_jk, .int v2, .int v3, .int v4, .int v5, .int q5, am_jk] [.int 1, .int v5, .ref 66] (N, am_ts T, I, L, am_rs r) Q) from ?_)
            refine am_E.go ⟨am_ki_ N T I L r _, s_250 hw (fun q6 hk => ⟨q6, rfl, rfl, hk⟩), ?_⟩
            intro v h9 hv
            obtain ⟨q6, rfl, rfl, hw⟩ := hv
            try dsimp only at hw
            refine am_E.run [63] 2000 (show (if q5 < 0 ∨ 10 ≤ Int32.toNatClampNeg q5 then False else (if (I 87 (Int32.toNatClampNeg q5)) = (v4 - 1) then (if q6 < 0 ∨ 10 ≤ Int32.toNatClampNeg q6 then False else (if (I 87 (Int32.toNatClampNeg q6)) = 100000000 then (if q6 < 0 ∨ 10 ≤ Int32.toNatClampNeg q6 then False else (if q6 < 0 ∨ 10 ≤ Int32.toNatClampNeg q6 then False else (if ((am_u I 87 (Int32.toNatClampNeg q6) v4) 87 (Int32.toNatClampNeg q6)) = (v4 - 1) then (if q5 < 0 ∨ 10 ≤ Int32.toNatClampNeg q5 then False else (if ((am_u I 87 (Int32.toNatClampNeg q6) v4) 87 (Int32.toNatClampNeg q5)) = 100000000 then (if q5 < 0 ∨ 10 ≤ Int32.toNatClampNeg q5 then False else (am_E S 267 (d + 3) 0 0 63 [.ref 66, am_jk, .int v2, .int v3, .int v4, .int (v5 + 1), .int q5, .int q6] [] (N, am_ts T, (am_u (am_u I 87 (Int32.toNatClampNeg q6) v4) 87 (Int32.toNatClampNeg q5) v4), L, am_rs r) Q)) else (if q5 < 0 ∨ 10 ≤ Int32.toNatClampNeg q5 then False else (if q5 < 0 ∨ 10 ≤ Int32.toNatClampNeg q5 then False else (am_E S 267 (d + 3) 0 0 63 [.ref 66, am_jk, .int v2, .int v3, .int v4, .int (v5 + 1), .int q5, .int q6] [] (N, am_ts T, (am_u (am_u I 87 (Int32.toNatClampNeg q6) v4) 87 (Int32.toNatClampNeg q5) ((am_u I 87 (Int32.toNatClampNeg q6) v4) 87 (Int32.toNatClampNeg q5))), L, am_rs r) Q))))) else (if q5 < 0 ∨ 10 ≤ Int32.toNatClampNeg q5 then False else (if q5 < 0 ∨ 10 ≤ Int32.toNatClampNeg q5 then False else (am_E S 267 (d + 3) 0 0 63 [.ref 66, am_jk, .int v2, .int v3, .int v4, .int (v5 + 1), .int q5, .int q6] [] (N, am_ts T, (am_u (am_u I 87 (Int32.toNatClampNeg q6) v4) 87 (Int32.toNatClampNeg q5) ((am_u I 87 (Int32.toNatClampNeg q6) v4) 87 (Int32.toNatClampNeg q5))), L, am_rs r) Q)))))) else (if q6 < 0 ∨ 10 ≤ Int32.toNatClampNeg q6 then False else (if q6 < 0 ∨ 10 ≤ Int32.toNatClampNeg q6 then False else (if q6 < 0 ∨ 10 ≤ Int32.toNatClampNeg q6 then False else (if ((am_u I 87 (Int32.toNatClampNeg q6) (I 87 (Int32.toNatClampNeg q6))) 87 (Int32.toNatClampNeg q6)) = (v4 - 1) then (if q5 < 0 ∨ 10 ≤ Int32.toNatClampNeg q5 then False else (if ((am_u I 87 (Int32.toNatClampNeg q6) (I 87 (Int32.toNatClampNeg q6))) 87 (Int32.toNatClampNeg q5)) = 100000000 then (if q5 < 0 ∨ 10 ≤ Int32.toNatClampNeg q5 then False else (am_E S 267 (d + 3) 0 0 63 [.ref 66, am_jk, .int v2, .int v3, .int v4, .int (v5 + 1), .int q5, .int q6] [] (N, am_ts T, (am_u (am_u I 87 (Int32.toNatClampNeg q6) (I 87 (Int32.toNatClampNeg q6))) 87 (Int32.toNatClampNeg q5) v4), L, am_rs r) Q)) else (if q5 < 0 ∨ 10 ≤ Int32.toNatClampNeg q5 then False else (if q5 < 0 ∨ 10 ≤ Int32.toNatClampNeg q5 then False else (am_E S 267 (d + 3) 0 0 63 [.ref 66, am_jk, .int v2, .int v3, .int v4, .int (v5 + 1), .int q5, .int q6] [] (N, am_ts T, (am_u (am_u I 87 (Int32.toNatClampNeg q6) (I 87 (Int32.toNatClampNeg q6))) 87 (Int32.toNatClampNeg q5) ((am_u I 87 (Int32.toNatClampNeg q6) (I 87 (Int32.toNatClampNeg q6))) 87 (Int32.toNatClampNeg q5))), L, am_rs r) Q))))) else (if q5 < 0 ∨ 10 ≤ Int32.toNatClampNeg q5 then False else (if q5 < 0 ∨ 10 ≤ Int32.toNatClampNeg q5 then False else (am_E S 267 (d + 3) 0 0 63 [.ref 66, am_jk, .int v2, .int v3, .int v4, .int (v5 + 1), .int q5, .int q6] [] (N, am_ts T, (am_u (am_u I 87 (Int32.toNatClampNeg q6) (I 87 (Int32.toNatClampNeg q6))) 87 (Int32.toNatClampNeg q5) ((am_u I 87 (Int32.toNatClampNeg q6) (I 87 (Int32.toNatClampNeg q6))) 87 (Int32.toNatClampNeg q5))), L, am_rs r) Q))))))))) else (if q6 < 0 ∨ 10 ≤ Int32.toNatClampNeg q6 then False else (if q6 < 0 ∨ 10 ≤ Int32.toNatClampNeg q6 then False else (if q6 < 0 ∨ 10 ≤ Int32.toNatClampNeg q6 then False else (if ((am_u I 87 (Int32.toNatClampNeg q6) (I 87 (Int32.toNatClampNeg q6))) 87 (Int32.toNatClampNeg q6)) = (v4 - 1) then (if q5 < 0 ∨ 10 ≤ Int32.toNatClampNeg q5 then False else (if ((am_u I 87 (Int32.toNatClampNeg q6) (I 87 (Int32.toNatClampNeg q6))) 87 (Int32.toNatClampNeg q5)) = 100000000 then (if q5 < 0 ∨ 10 ≤ Int32.toNatClampNeg q5 then False else (am_E S 267 (d + 3) 0 0 63 [.ref 66, am_jk, .int v2, .int v3, .int v4, .int (v5 + 1), .int q5, .int q6] [] (N, am_ts T, (am_u (am_u I 87 (Int32.toNatClampNeg q6) (I 87 (Int32.toNatClampNeg q6))) 87 (Int32.toNatClampNeg q5) v4), L, am_rs r) Q)) else (if q5 < 0 ∨ 10 ≤ Int32.toNatClampNeg q5 then False else (if q5 < 0 ∨ 10 ≤ Int32.toNatClampNeg q5 then False else (am_E S 267 (d + 3) 0 0 63 [.ref 66, am_jk, .int v2, .int v3, .int v4, .int (v5 + 1), .int q5, .int q6] [] (N, am_ts T, (am_u (am_u I 87 (Int32.toNatClampNeg q6) (I 87 (Int32.toNatClampNeg q6))) 87 (Int32.toNatClampNeg q5) ((am_u I 87 (Int32.toNatClampNeg q6) (I 87 (Int32.toNatClampNeg q6))) 87 (Int32.toNatClampNeg q5))), L, am_rs r) Q))))) else (if q5 < 0 ∨ 10 ≤ Int32.toNatClampNeg q5 then False else (if q5 < 0 ∨ 10 ≤ Int32.toNatClampNeg q5 then False else (am_E S 267 (d + 3) 0 0 63 [.ref 66, am_jk, .int v2, .int v3, .int v4, .int (v5 + 1), .int q5, .int q6] [] (N, am_ts T, (am_u (am_u I 87 (Int32.toNatClampNeg q6) (I 87 (Int32.toNatClampNeg q6))) 87 (Int32.toNatClampNeg q5) ((am_u I 87 (Int32.toNatClampNeg q6) (I 87 (Int32.toNatClampNeg q6))) 87 (Int32.toNatClampNeg q5))), L, am_rs r) Q))))))))) from ?_)
            refine am_ifn hw.1 ?_
            replace hw := hw.2
            by_cases hc : (I 87 (Int32.toNatClampNeg q5)) = (v4 - 1)
            · rw [if_pos hc] at hw ⊢
              refine am_ifn hw.1 ?_
              replace hw := hw.2
              by_cases hc : (I 87 (Int32.toNatClampNeg q6)) = 100000000
              · rw [if_pos hc] at hw ⊢
                refine am_ifn hw.1 ?_
                replace hw := hw.2
                refine am_ifn hw.1 ?_
                replace hw := hw.2
                by_cases hc : ((am_u I 87 (Int32.toNatClampNeg q6) v4) 87 (Int32.toNatClampNeg q6)) = (v4 - 1)
                · rw [if_pos hc] at hw ⊢
                  refine am_ifn hw.1 ?_
                  replace hw := hw.2
                  by_cases hc : ((am_u I 87 (Int32.toNatClampNeg q6) v4) 87 (Int32.toNatClampNeg q5)) = 100000000
                  · rw [if_pos hc] at hw ⊢
                    refine am_ifn hw.1 ?_
                    replace hw := hw.2
                    exact am_E.junk (ih hw hE0) (am_le.cons (am_le.cons (am_le.cons (am_le.cons (am_le.cons (am_le.cons (am_le.jk (am_le.jk am_le.nil))))))))
                  · rw [if_neg hc] at hw ⊢
                    refine am_ifn hw.1 ?_
                    replace hw := hw.2
                    refine am_ifn hw.1 ?_
                    replace hw := hw.2
                    exact am_E.junk (ih hw hE0) (am_le.cons (am_le.cons (am_le.cons (am_le.cons (am_le.cons (am_le.cons (am_le.jk (am_le.jk am_le.nil))))))))
                · rw [if_neg hc] at hw ⊢
                  refine am_ifn hw.1 ?_
                  replace hw := hw.2
                  refine am_ifn hw.1 ?_
                  replace hw := hw.2
                  exact am_E.junk (ih hw hE0) (am_le.cons (am_le.cons (am_le.cons (am_le.cons (am_le.cons (am_le.cons (am_le.jk (am_le.jk am_le.nil))))))))
              · rw [if_neg hc] at hw ⊢
                refine am_ifn hw.1 ?_
                replace hw := hw.2
                refine am_ifn hw.1 ?_
                replace hw := hw.2
                refine am_ifn hw.1 ?_
                replace hw := hw.2
                by_cases hc : ((am_u I 87 (Int32.toNatClampNeg q6) (I 87 (Int32.toNatClampNeg q6))) 87 (Int32.toNatClampNeg q6)) = (v4 - 1)
                · rw [if_pos hc] at hw ⊢
                  refine am_ifn hw.1 ?_
                  replace hw := hw.2
                  by_cases hc : ((am_u I 87 (Int32.toNatClampNeg q6) (I 87 (Int32.toNatClampNeg q6))) 87 (Int32.toNatClampNeg q5)) = 100000000
                  · rw [if_pos hc] at hw ⊢
                    refine am_ifn hw.1 ?_
                    replace hw := hw.2
                    exact am_E.junk (ih hw hE0) (am_le.cons (am_le.cons (am_le.cons (am_le.cons (am_le.cons (am_le.cons (am_le.jk (am_le.jk am_le.nil))))))))
                  · rw [if_neg hc] at hw ⊢
                    refine am_ifn hw.1 ?_
                    replace hw := hw.2
                    refine am_ifn hw.1 ?_
                    replace hw := hw.2
                    exact am_E.junk (ih hw hE0) (am_le.cons (am_le.cons (am_le.cons (am_le.cons (am_le.cons (am_le.cons (am_le.jk (am_le.jk am_le.nil))))))))
                · rw [if_neg hc] at hw ⊢
                  refine am_ifn hw.1 ?_
                  replace hw := hw.2
                  refine am_ifn hw.1 ?_
                  replace hw := hw.2
                  exact am_E.junk (ih hw hE0) (am_le.cons (am_le.cons (am_le.cons (am_le.cons (am_le.cons (am_le.cons (am_le.jk (am_le.jk am_le.nil))))))))
            · rw [if_neg hc] at hw ⊢
              refine am_ifn hw.1 ?_
              replace hw := hw.2
              refine am_ifn hw.1 ?_
              replace hw := hw.2
              refine am_ifn hw.1 ?_
              replace hw := hw.2
              by_cases hc : ((am_u I 87 (Int32.toNatClampNeg q6) (I 87 (Int32.toNatClampNeg q6))) 87 (Int32.toNatClampNeg q6)) = (v4 - 1)
              · rw [if_pos hc] at hw ⊢
                refine am_ifn hw.1 ?_
                replace hw := hw.2
                by_cases hc : ((am_u I 87 (Int32.toNatClampNeg q6) (I 87 (Int32.toNatClampNeg q6))) 87 (Int32.toNatClampNeg q5)) = 100000000
                · rw [if_pos hc] at hw ⊢
                  refine am_ifn hw.1 ?_
                  replace hw := hw.2
                  exact am_E.junk (ih hw hE0) (am_le.cons (am_le.cons (am_le.cons (am_le.cons (am_le.cons (am_le.cons (am_le.jk (am_le.jk am_le.nil))))))))
                · rw [if_neg hc] at hw ⊢
                  refine am_ifn hw.1 ?_
                  replace hw := hw.2
                  refine am_ifn hw.1 ?_
                  replace hw := hw.2
                  exact am_E.junk (ih hw hE0) (am_le.cons (am_le.cons (am_le.cons (am_le.cons (am_le.cons (am_le.cons (am_le.jk (am_le.jk am_le.nil))))))))
              · rw [if_neg hc] at hw ⊢
                refine am_ifn hw.1 ?_
                replace hw := hw.2
                refine am_ifn hw.1 ?_
                replace hw := hw.2
                exact am_E.junk (ih hw hE0) (am_le.cons (am_le.cons (am_le.cons (am_le.cons (am_le.cons (am_le.cons (am_le.jk (am_le.jk am_le.nil))))))))
          · rw [if_neg hc] at hw ⊢
            exact ih hw hE0
        · rw [if_neg hc] at hw ⊢
          exact ih hw hE0
def lw_267_53 : Nat → Int32 → Int32 → Int32 → am_I → (Int32 → am_I → Prop) → Prop
  | 0, _, _, _, _, _ => False
  | n + 1, v2, v3, v4, I, E0 =>
    if (10 : Int32) ≤ v4 then
      E0 v4 I
    else
      ∃ n63, lw_267_63 n63 v2 v3 v4 0 I (fun o7 I8 =>
        lw_267_53 n v2 v3 (v4 + 1) I8 E0)
set_option maxRecDepth 100000 in
theorem sl_267_53 {S : am_S} {d : Nat} {Q : am_Q} {N : Nat} {T : Nat → Nat × Nat} {L : am_J} {r : Nat → Nat → Option Nat} {E0 : Int32 → am_I → Prop} : ∀ (n : Nat) {v2 : Int32} {v3 : Int32} {v4 : Int32} {I : am_I}, lw_267_53 n v2 v3 v4 I E0 → (∀ (o4 : Int32) (I1 : am_I), E0 o4 I1 → am_E S 267 (d + 3) 0 0 224 [.ref 66, am_jk, .int v2, .int v3, .int o4, am_jk, am_jk, am_jk] [] (N, am_ts T, I1, L, am_rs r) Q) → am_E S 267 (d + 3) 0 0 53 [.ref 66, am_jk, .int v2, .int v3, .int v4, am_jk, am_jk, am_jk] [] (N, am_ts T, I, L, am_rs r) Q
  | 0, _, _, _, _, hw, _ => hw.elim
  | n + 1, v2, v3, v4, I, hw, hE0 => by
    have ih := @sl_267_53 S d Q N T L r E0 n
    unfold lw_267_53 at hw
    try dsimp only at hw
    refine am_E.run [63, 224] 2000 (show (if (10 : Int32) ≤ v4 then (am_E S 267 (d + 3) 0 0 224 [.ref 66, am_jk, .int v2, .int v3, .int v4, am_jk, am_jk, am_jk] [] (N, am_ts T, I, L, am_rs r) Q) else (am_E S 267 (d + 3) 0 0 63 [.ref 66, am_jk, .int v2, .int v3, .int v4, .int 0, am_jk, am_jk] [] (N, am_ts T, I, L, am_rs r) Q)) from ?_)
    by_cases hc : (10 : Int32) ≤ v4
    · rw [if_pos hc] at hw ⊢
      exact hE0 _ _ hw
    · rw [if_neg hc] at hw ⊢
      obtain ⟨n63, hw⟩ := hw
      refine sl_267_63 n63 hw (fun o7 I8 hw => ?_)
      · try dsimp only at hw
        refine am_E.run [53] 2000 (show (am_E S 267 (d + 3) 0 0 53 [.ref 66, am_jk, .int v2, .int v3, .int (v4 + 1), .int o7, am_jk, am_jk] [] (N, am_ts T, I8, L, am_rs r) Q) from ?_)
        exact am_E.junk (ih hw hE0) (am_le.cons (am_le.cons (am_le.cons (am_le.cons (am_le.cons (am_le.jk (am_le.cons (am_le.cons am_le.nil))))))))
/-- KeyKeepersModel.doorsOut(II)I -/
def w_267 (x0 : Int32) (x1 : Int32) (I : am_I) (K : Int32 → am_I → Prop) : Prop :=
  w_268 x0 I (fun q1 =>
    ∃ n9, lw_267_9 n9 x0 x1 q1 0 I (fun o2 I3 =>
      ∃ n53, lw_267_53 n53 x1 q1 1 I3 (fun o9 I10 =>
        K (I10 87 0) I10)))
set_option maxRecDepth 100000 in
theorem s_267 {S : am_S} {d : Nat} {N : Nat} {T : Nat → Nat × Nat} {I : am_I} {L : am_J} {r : Nat → Nat → Option Nat} {Q : am_Q} {x0 : Int32} {x1 : Int32} {K : Int32 → am_I → Prop} (hw : w_267 x0 x1 I K) (hK : ∀ (q : Int32) (I1 : am_I), K q I1 → Q (some (.int q)) (N, am_ts T, I1, L, am_rs r)) : am_E S 267 (d + 3) 0 0 0 [.ref 66, .int x0, .int x1, am_jk, am_jk, am_jk, am_jk, am_jk] [] (N, am_ts T, I, L, am_rs r) Q := by
  unfold w_267 at hw
  try dsimp only at hw
  refine am_E.run [2] 2000 (show (am_E S 267 (d + 3) 0 0 2 [.ref 66, .int x0, .int x1, am_jk, am_jk, am_jk, am_jk, am_jk] [.int x0, .ref 66] (N, am_ts T, I, L, am_rs r) Q) from ?_)
  refine am_E.go ⟨am_ki_ N T I L r _, s_268 hw (fun q1 hk => ⟨q1, rfl, rfl, hk⟩), ?_⟩
  intro v h9 hv
  obtain ⟨q1, rfl, rfl, hw⟩ := hv
  try dsimp only at hw
  refine am_E.run [9] 2000 (show (am_E S 267 (d + 3) 0 0 9 [.ref 66, .int x0, .int x1, .int q1, .int 0, am_jk, am_jk, am_jk] [] (N, am_ts T, I, L, am_rs r) Q) from ?_)
  obtain ⟨n9, hw⟩ := hw
  refine sl_267_9 n9 hw (fun o2 I3 hw => ?_)
  · try dsimp only at hw
    refine am_E.run [53] 2000 (show (am_E S 267 (d + 3) 0 0 53 [.ref 66, .int x0, .int x1, .int q1, .int 1, am_jk, am_jk, am_jk] [] (N, am_ts T, I3, L, am_rs r) Q) from ?_)
    obtain ⟨n53, hw⟩ := hw
    refine am_E.junk (lo := [.ref 66, am_jk, .int x1, .int q1, .int 1, am_jk, am_jk, am_jk]) ?_ (am_le.cons (am_le.jk (am_le.cons (am_le.cons (am_le.cons (am_le.cons (am_le.cons (am_le.cons am_le.nil))))))))
    refine sl_267_53 n53 hw (fun o9 I10 hw => ?_)
    · try dsimp only at hw
      refine am_E.run [] 2000 (show (True ∧ Q (some (.int (I10 87 0))) (N, am_ts T, I10, L, am_rs r)) from ?_)
      exact ⟨trivial, hK _ _ hw⟩
