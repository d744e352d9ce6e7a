def lw_161_2 : Nat → Int32 → am_I → (Int32 → am_I → Prop) → Prop
  | 0, _, _, _ => False
  | n + 1, v2, I, E0 =>
    if (Int32.ofNat 2304) ≤ v2 then
      E0 v2 I
    else
      ¬ (v2 < 0 ∨ 2304 ≤ Int32.toNatClampNeg v2) ∧
      lw_161_2 n (v2 + 1) (am_u I 61 (Int32.toNatClampNeg v2) 0) E0
set_option maxRecDepth 100000 in
theorem sl_161_2 {S : am_S} {d : Nat} {Q : am_Q} {N : Nat} {T : Nat → Nat × Nat} {L : am_J} {r : Nat → Nat → Option Nat} {E0 : Int32 → am_I → Prop} : ∀ (n : Nat) {v2 : Int32} {I : am_I}, lw_161_2 n v2 I E0 → (∀ (o2 : Int32) (I1 : am_I), E0 o2 I1 → am_E S 161 (d + 1) 0 0 24 [.ref 59, .ref 1, .int o2, am_jk] [] (N, am_ts T, I1, L, am_rs r) Q) → am_E S 161 (d + 1) 0 0 2 [.ref 59, .ref 1, .int v2, am_jk] [] (N, am_ts T, I, L, am_rs r) Q
  | 0, _, _, hw, _ => hw.elim
  | n + 1, v2, I, hw, hE0 => by
    have ih := @sl_161_2 S d Q N T L r E0 n
    unfold lw_161_2 at hw
    try dsimp only at hw
    refine am_E.run [2, 24] 2000 (show (if (Int32.ofNat 2304) ≤ v2 then (am_E S 161 (d + 1) 0 0 24 [.ref 59, .ref 1, .int v2, am_jk] [] (N, am_ts T, I, L, am_rs r) Q) else (if v2 < 0 ∨ 2304 ≤ Int32.toNatClampNeg v2 then False else (am_E S 161 (d + 1) 0 0 2 [.ref 59, .ref 1, .int (v2 + 1), am_jk] [] (N, am_ts T, (am_u I 61 (Int32.toNatClampNeg v2) 0), L, am_rs r) Q))) from ?_)
    by_cases hc : (Int32.ofNat 2304) ≤ v2
    · rw [if_pos hc] at hw ⊢
      exact hE0 _ _ hw
    · rw [if_neg hc] at hw ⊢
      refine am_ifn hw.1 ?_
      replace hw := hw.2
      exact ih hw hE0
def lw_161_26 : Nat → Int32 → am_I → (Int32 → am_I → Prop) → Prop
  | 0, _, _, _ => False
  | n + 1, v2, I, E0 =>
    if (I 59 1) ≤ v2 then
      E0 v2 I
    else
      ¬ (v2 < 0 ∨ 256 ≤ Int32.toNatClampNeg v2) ∧
      ¬ ((((f_153 I) &&& ((I 60 (Int32.toNatClampNeg v2)) ^^^ (-1))) * 9) < 0 ∨ 2304 ≤ Int32.toNatClampNeg (((f_153 I) &&& ((I 60 (Int32.toNatClampNeg v2)) ^^^ (-1))) * 9)) ∧
      lw_161_26 n (v2 + 1) (am_u I 61 (Int32.toNatClampNeg (((f_153 I) &&& ((I 60 (Int32.toNatClampNeg v2)) ^^^ (-1))) * 9)) 1) E0
set_option maxRecDepth 100000 in
theorem sl_161_26 {S : am_S} {d : Nat} {Q : am_Q} {N : Nat} {T : Nat → Nat × Nat} {L : am_J} {r : Nat → Nat → Option Nat} {E0 : Int32 → am_I → Prop} : ∀ (n : Nat) {v2 : Int32} {I : am_I}, lw_161_26 n v2 I E0 → (∀ (o2 : Int32) (I1 : am_I), E0 o2 I1 → am_E S 161 (d + 1) 0 0 62 [.ref 59, .ref 1, .int o2, am_jk] [] (N, am_ts T, I1, L, am_rs r) Q) → am_E S 161 (d + 1) 0 0 26 [.ref 59, .ref 1, .int v2, am_jk] [] (N, am_ts T, I, L, am_rs r) Q
  | 0, _, _, hw, _ => hw.elim
  | n + 1, v2, I, hw, hE0 => by
    have ih := @sl_161_26 S d Q N T L r E0 n
    unfold lw_161_26 at hw
    try dsimp only at hw
    refine am_E.run [39, 62] 2000 (show (if (I 59 1) ≤ v2 then (am_E S 161 (d + 1) 0 0 62 [.ref 59, .ref 1, .int v2, am_jk] [] (N, am_ts T, I, L, am_rs r) Q) else (am_E S 161 (d + 1) 0 0 39 [.ref 59, .ref 1, .int v2, am_jk] [.ref 1, .ref 61] (N, am_ts T, I, L, am_rs r) Q)) from ?_)
    by_cases hc : (I 59 1) ≤ v2
    · rw [if_pos hc] at hw ⊢
      exact hE0 _ _ hw
    · rw [if_neg hc] at hw ⊢
      refine am_E.go ⟨fun v h9 => v = some (.int (f_153 I)) ∧ h9 = (N, am_ts T, I, L, am_rs r), s_153 ⟨rfl, rfl⟩, ?_⟩
      intro v h9 hv
      obtain ⟨rfl, rfl⟩ := hv
      refine am_E.run [26] 2000 (show (if v2 < 0 ∨ 256 ≤ Int32.toNatClampNeg v2 then False else (if (((f_153 I) &&& ((I 60 (Int32.toNatClampNeg v2)) ^^^ (-1))) * 9) < 0 ∨ 2304 ≤ Int32.toNatClampNeg (((f_153 I) &&& ((I 60 (Int32.toNatClampNeg v2)) ^^^ (-1))) * 9) then False else (am_E S 161 (d + 1) 0 0 26 [.ref 59, .ref 1, .int (v2 + 1), am_jk] [] (N, am_ts T, (am_u I 61 (Int32.toNatClampNeg (((f_153 I) &&& ((I 60 (Int32.toNatClampNeg v2)) ^^^ (-1))) * 9)) 1), L, am_rs r) Q))) from ?_)
      refine am_ifn hw.1 ?_
      replace hw := hw.2
      refine am_ifn hw.1 ?_
      replace hw := hw.2
      exact ih hw hE0
def lw_161_74 : Nat → Int32 → Int32 → am_I → (Int32 → am_I → Prop) → Prop
  | 0, _, _, _, _ => False
  | n + 1, v2, v3, I, E0 =>
    if (f_153 I) < v3 then
      E0 v3 I
    else
      if (f_20 v3 v2) = 0 then
        w_162 (v3 * 9) ((f_21 v3 v2 1) * 9) (v2 + 1) I (fun I5 =>
          lw_161_74 n v2 (v3 + 1) I5 E0)
      else
        lw_161_74 n v2 (v3 + 1) I E0
set_option maxRecDepth 100000 in
theorem sl_161_74 {S : am_S} {d : Nat} {Q : am_Q} {N : Nat} {T : Nat → Nat × Nat} {L : am_J} {r : Nat → Nat → Option Nat} {E0 : Int32 → am_I → Prop} : ∀ (n : Nat) {v2 : Int32} {v3 : Int32} {I : am_I}, lw_161_74 n v2 v3 I E0 → (∀ (o3 : Int32) (I1 : am_I), E0 o3 I1 → am_E S 161 (d + 1) 0 0 116 [.ref 59, .ref 1, .int v2, .int o3] [] (N, am_ts T, I1, L, am_rs r) Q) → am_E S 161 (d + 1) 0 0 74 [.ref 59, .ref 1, .int v2, .int v3] [] (N, am_ts T, I, L, am_rs r) Q
  | 0, _, _, _, hw, _ => hw.elim
  | n + 1, v2, v3, I, hw, hE0 => by
    have ih := @sl_161_74 S d Q N T L r E0 n
    unfold lw_161_74 at hw
    try dsimp only at hw
    refine am_E.run [76] 2000 (show (am_E S 161 (d + 1) 0 0 76 [.ref 59, .ref 1, .int v2, .int v3] [.ref 1, .int v3] (N, am_ts T, I, L, am_rs r) Q) from ?_)
    refine am_E.go ⟨fun v h9 => v = some (.int (f_153 I)) ∧ h9 = (N, am_ts T, I, L, am_rs r), s_153 ⟨rfl, rfl⟩, ?_⟩
    intro v h9 hv
    obtain ⟨rfl, rfl⟩ := hv
    refine am_E.run [84, 116] 2000 (show (if (f_153 I) < v3 then (am_E S 161 (d + 1) 0 0 116 [.ref 59, .ref 1, .int v2, .int v3] [] (N, am_ts T, I, L, am_rs r) Q) else (am_E S 161 (d + 1) 0 0 84 [.ref 59, .ref 1, .int v2, .int v3] [.int v2, .int v3] (N, am_ts T, I, L, am_rs r) Q)) from ?_)
    by_cases hc : (f_153 I) < v3
    · rw [if_pos hc] at hw ⊢
      exact hE0 _ _ hw
    · rw [if_neg hc] at hw ⊢
      refine am_E.go ⟨fun v h9 => v = some (.int (f_20 v3 v2)) ∧ h9 = (N, am_ts T, I, L, am_rs r), s_20 ⟨rfl, rfl⟩, ?_⟩
      intro v h9 hv
      obtain ⟨rfl, rfl⟩ := hv
      refine am_E.run [74, 98] 2000 (show (if (f_20 v3 v2) = 0 then (am_E S 161 (d + 1) 0 0 98 [.ref 59, .ref 1, .int v2, .int v3] [.int 1, .int v2, .int v3, .int (v3 * 9), .ref 59] (N, am_ts T, I, L, am_rs r) Q) else (am_E S 161 (d + 1) 0 0 74 [.ref 59, .ref 1, .int v2, .int (v3 + 1)] [] (N, am_ts T, I, L, am_rs r) Q)) from ?_)
      by_cases hc : (f_20 v3 v2) = 0
      · rw [if_pos hc] at hw ⊢
        refine am_E.go ⟨fun v h9 => v = some (.int (f_21 v3 v2 1)) ∧ h9 = (N, am_ts T, I, L, am_rs r), s_21 ⟨rfl, rfl⟩, ?_⟩
        intro v h9 hv
        obtain ⟨rfl, rfl⟩ := hv
        refine am_E.run [107] 2000 (show (am_E S 161 (d + 1) 0 0 107 [.ref 59, .ref 1, .int v2, .int v3] [.int (v2 + 1), .int ((f_21 v3 v2 1) * 9), .int (v3 * 9), .ref 59] (N, am_ts T, I, L, am_rs r) Q) from ?_)
        refine am_E.go ⟨am_kv_I N T L r _, s_162 hw (fun I5 hk => ⟨I5, rfl, rfl, hk⟩), ?_⟩
        intro v h9 hv
        obtain ⟨I5, rfl, rfl, hw⟩ := hv
        try dsimp only at hw
        refine am_E.run [74] 2000 (show (am_E S 161 (d + 1) 0 0 74 [.ref 59, .ref 1, .int v2, .int (v3 + 1)] [] (N, am_ts T, I5, L, am_rs r) Q) from ?_)
        exact ih hw hE0
      · rw [if_neg hc] at hw ⊢
        exact ih hw hE0
def lw_161_64 : Nat → Int32 → am_I → (Int32 → am_I → Prop) → Prop
  | 0, _, _, _ => False
  | n + 1, v2, I, E0 =>
    if (I 1 10) ≤ v2 then
      E0 v2 I
    else
      ∃ n74, lw_161_74 n74 v2 0 I (fun o6 I7 =>
        lw_161_64 n (v2 + 1) I7 E0)
set_option maxRecDepth 100000 in
theorem sl_161_64 {S : am_S} {d : Nat} {Q : am_Q} {N : Nat} {T : Nat → Nat × Nat} {L : am_J} {r : Nat → Nat → Option Nat} {E0 : Int32 → am_I → Prop} : ∀ (n : Nat) {v2 : Int32} {I : am_I}, lw_161_64 n v2 I E0 → (∀ (o2 : Int32) (I1 : am_I), E0 o2 I1 → am_E S 161 (d + 1) 0 0 122 [.ref 59, .ref 1, .int o2, am_jk] [] (N, am_ts T, I1, L, am_rs r) Q) → am_E S 161 (d + 1) 0 0 64 [.ref 59, .ref 1, .int v2, am_jk] [] (N, am_ts T, I, L, am_rs r) Q
  | 0, _, _, hw, _ => hw.elim
  | n + 1, v2, I, hw, hE0 => by
    have ih := @sl_161_64 S d Q N T L r E0 n
    unfold lw_161_64 at hw
    try dsimp only at hw
    refine am_E.run [74, 122] 2000 (show (if (I 1 10) ≤ v2 then (am_E S 161 (d + 1) 0 0 122 [.ref 59, .ref 1, .int v2, am_jk] [] (N, am_ts T, I, L, am_rs r) Q) else (am_E S 161 (d + 1) 0 0 74 [.ref 59, .ref 1, .int v2, .int 0] [] (N, am_ts T, I, L, am_rs r) Q)) from ?_)
    by_cases hc : (I 1 10) ≤ v2
    · rw [if_pos hc] at hw ⊢
      exact hE0 _ _ hw
    · rw [if_neg hc] at hw ⊢
      obtain ⟨n74, hw⟩ := hw
      refine sl_161_74 n74 hw (fun o6 I7 hw => ?_)
      · try dsimp only at hw
        refine am_E.run [64] 2000 (show (am_E S 161 (d + 1) 0 0 64 [.ref 59, .ref 1, .int (v2 + 1), .int o6] [] (N, am_ts T, I7, L, am_rs r) Q) from ?_)
        exact am_E.junk (ih hw hE0) (am_le.cons (am_le.cons (am_le.cons (am_le.jk am_le.nil))))
/-- KeyKeepers$Counting.spreadSets(LKeyKeepers$Prison;)V -/
def w_161 (I : am_I) (K : am_I → Prop) : Prop :=
  ∃ n2, lw_161_2 n2 0 I (fun o1 I2 =>
    ∃ n26, lw_161_26 n26 0 I2 (fun o3 I4 =>
      ∃ n64, lw_161_64 n64 0 I4 (fun o8 I9 =>
        K I9)))
set_option maxRecDepth 100000 in
theorem s_161 {S : am_S} {d : Nat} {N : Nat} {T : Nat → Nat × Nat} {I : am_I} {L : am_J} {r : Nat → Nat → Option Nat} {Q : am_Q} {K : am_I → Prop} (hw : w_161 I K) (hK : ∀ (I1 : am_I), K I1 → Q (none) (N, am_ts T, I1, L, am_rs r)) : am_E S 161 (d + 1) 0 0 0 [.ref 59, .ref 1, am_jk, am_jk] [] (N, am_ts T, I, L, am_rs r) Q := by
  unfold w_161 at hw
  try dsimp only at hw
  refine am_E.run [2] 2000 (show (am_E S 161 (d + 1) 0 0 2 [.ref 59, .ref 1, .int 0, am_jk] [] (N, am_ts T, I, L, am_rs r) Q) from ?_)
  obtain ⟨n2, hw⟩ := hw
  refine sl_161_2 n2 hw (fun o1 I2 hw => ?_)
  · try dsimp only at hw
    refine am_E.run [26] 2000 (show (am_E S 161 (d + 1) 0 0 26 [.ref 59, .ref 1, .int 0, am_jk] [] (N, am_ts T, I2, L, am_rs r) Q) from ?_)
    obtain ⟨n26, hw⟩ := hw
    refine sl_161_26 n26 hw (fun o3 I4 hw => ?_)
    · try dsimp only at hw
      refine am_E.run [64] 2000 (show (am_E S 161 (d + 1) 0 0 64 [.ref 59, .ref 1, .int 0, am_jk] [] (N, am_ts T, I4, L, am_rs r) Q) from ?_)
      obtain ⟨n64, hw⟩ := hw
      refine sl_161_64 n64 hw (fun o8 I9 hw => ?_)
      · try dsimp only at hw
        refine am_E.run [] 2000 (show (True ∧ Q (none) (N, am_ts T, I9, L, am_rs r)) from ?_)
        exact ⟨trivial, hK _ hw⟩
/-- KeyKeepers.sure(II)I -/
def w_166 (x0 : Int32) (x1 : Int32) (I : am_I) (K : Int32 → am_I → Prop) : Prop :=
  if (f_13 x0 0 8) = 0 then
    K (-1) I
  else
    if (f_18 x1) = 0 then
      K (-1) I
    else
      w_167 x0 I (fun q1 I2 =>
        if x1 = 0 then
          K (f_111 q1) I2
        else
          K q1 I2)
set_option maxRecDepth 100000 in
theorem s_166 {S : am_S} {d : Nat} {N : Nat} {T : Nat → Nat × Nat} {I : am_I} {L : am_J} {r : Nat → Nat → Option Nat} {Q : am_Q} {x0 : Int32} {x1 : Int32} {K : Int32 → am_I → Prop} (hw : w_166 x0 x1 I K) (hK : ∀ (q : Int32) (I1 : am_I), K q I1 → Q (some (.int q)) (N, am_ts T, I1, L, am_rs r)) : am_E S 166 (d + 2) 0 0 0 [.ref 0, .int x0, .int x1, am_jk] [] (N, am_ts T, I, L, am_rs r) Q := by
  unfold w_166 at hw
  try dsimp only at hw
  refine am_E.run [4] 2000 (show (am_E S 166 (d + 2) 0 0 4 [.ref 0, .int x0, .int x1, am_jk] [.int 8, .int 0, .int x0] (N, am_ts T, I, L, am_rs r) Q) from ?_)
  refine am_E.go ⟨fun v h9 => v = some (.int (f_13 x0 0 8)) ∧ h9 = (N, am_ts T, I, L, am_rs r), s_13 ⟨rfl, rfl⟩, ?_⟩
  intro v h9 hv
  obtain ⟨rfl, rfl⟩ := hv
  refine am_E.run [11] 2000 (show (if (f_13 x0 0 8) = 0 then (True ∧ Q (some (.int (-1))) (N, am_ts T, I, L, am_rs r)) else (am_E S 166 (d + 2) 0 0 11 [.ref 0, .int x0, .int x1, am_jk] [.int x1] (N, am_ts T, I, L, am_rs r) Q)) from ?_)
  by_cases hc : (f_13 x0 0 8) = 0
  · rw [if_pos hc] at hw ⊢
    exact ⟨trivial, hK _ _ hw⟩
  · rw [if_neg hc] at hw ⊢
    refine am_E.go ⟨fun v h9 => v = some (.int (f_18 x1)) ∧ h9 = (N, am_ts T, I, L, am_rs r), s_18 ⟨rfl, rfl⟩, ?_⟩
    intro v h9 hv
    obtain ⟨rfl, rfl⟩ := hv
    refine am_E.run [28] 2000 (show (if (f_18 x1) = 0 then (True ∧ Q (some (.int (-1))) (N, am_ts T, I, L, am_rs r)) else (am_E S 166 (d + 2) 0 0 28 [.ref 0, .int x0, .int x1, am_jk] [.int x0, .ref 1, .ref 59] (N, am_ts T, I, L, am_rs r) Q)) from ?_)
    by_cases hc : (f_18 x1) = 0
    · rw [if_pos hc] at hw ⊢
      exact ⟨trivial, hK _ _ hw⟩
    · rw [if_neg hc] at hw ⊢
      refine am_E.go ⟨am_ki_I N T L r _, s_167 hw (fun q1 I2 hk => ⟨q1, I2, rfl, rfl, hk⟩), ?_⟩
      intro v h9 hv
      obtain ⟨q1, I2, rfl, rfl, hw⟩ := hv
      try dsimp only at hw
      refine am_E.run [37] 2000 (show (if x1 = 0 then (am_E S 166 (d + 2) 0 0 37 [.ref 0, .int x0, .int x1, .int q1] [.int q1] (N, am_ts T, I2, L, am_rs r) Q) else (True ∧ Q (some (.int q1)) (N, am_ts T, I2, L, am_rs r))) from ?_)
      by_cases hc : x1 = 0
      · rw [if_pos hc] at hw ⊢
        refine am_E.go ⟨fun v h9 => v = some (.int (f_111 q1)) ∧ h9 = (N, am_ts T, I2, L, am_rs r), s_111 ⟨rfl, rfl⟩, ?_⟩
        intro v h9 hv
        obtain ⟨rfl, rfl⟩ := hv
        refine am_E.run [] 2000 (show (True ∧ Q (some (.int (f_111 q1))) (N, am_ts T, I2, L, am_rs r)) from ?_)
        exact ⟨trivial, hK _ _ hw⟩
      · rw [if_neg hc] at hw ⊢
        exact ⟨trivial, hK _ _ hw⟩
/-- KeyKeepers$Nights.goSomewhere(LKeyKeepers$Prison;)V -/
def w_170 (T : Nat → Nat × Nat) (r : Nat → Nat → Option Nat) (I : am_I) (K : am_I → Prop) : Prop :=
  w_171 (I 1 10) I (fun q1 I2 =>
    w_171 (I2 1 2) I2 (fun q3 I4 =>
      w_95 q1 q3 64 T r I4 (fun q5 =>
        if q5 = (-1) then
          K I4
        else
          ¬ (q1 < 0 ∨ 8 ≤ Int32.toNatClampNeg q1) ∧
          K (am_u I4 64 (Int32.toNatClampNeg q1) q5))))
set_option maxRecDepth 100000 in
theorem s_170 {S : am_S} {d : Nat} {N : Nat} {T : Nat → Nat × Nat} {I : am_I} {L : am_J} {r : Nat → Nat → Option Nat} {Q : am_Q} {K : am_I → Prop} (hw : w_170 T r I K) (hK : ∀ (I1 : am_I), K I1 → Q (none) (N, am_ts T, I1, L, am_rs r)) : am_E S 170 (d + 3) 0 0 0 [.ref 63, .ref 1, am_jk, am_jk, am_jk] [] (N, am_ts T, I, L, am_rs r) Q := by
  unfold w_170 at hw
  try dsimp only at hw
  refine am_E.run [5] 2000 (show (am_E S 170 (d + 3) 0 0 5 [.ref 63, .ref 1, am_jk, am_jk, am_jk] [.int (I 1 10), .ref 63] (N, am_ts T, I, L, am_rs r) Q) from ?_)
  refine am_E.go ⟨am_ki_I N T L r _, s_171 hw (fun q1 I2 hk => ⟨q1, I2, rfl, rfl, hk⟩), ?_⟩
  intro v h9 hv
  obtain ⟨q1, I2, rfl, rfl, hw⟩ := hv
  try dsimp only at hw
  refine am_E.run [14] 2000 (show (am_E S 170 (d + 3) 0 0 14 [.ref 63, .ref 1, .int q1, am_jk, am_jk] [.int (I2 1 2), .ref 63] (N, am_ts T, I2, L, am_rs r) Q) from ?_)
  refine am_E.go ⟨am_ki_I N T L r _, s_171 hw (fun q3 I4 hk => ⟨q3, I4, rfl, rfl, hk⟩), ?_⟩
  intro v h9 hv
  obtain ⟨q3, I4, rfl, rfl, hw⟩ := hv
  try dsimp only at hw
  refine am_E.run [25] 2000 (show (am_E S 170 (d + 3) 0 0 25 [.ref 63, .ref 1, .int q1, .int q3, am_jk] [.ref 64, .int q3, .int q1, .ref 1] (N, am_ts T, I4, L, am_rs r) Q) from ?_)
  refine am_E.go ⟨am_ki_ N T I4 L r _, s_95 hw (fun q5 hk => ⟨q5, rfl, rfl, hk⟩), ?_⟩
  intro v h9 hv
  obtain ⟨q5, rfl, rfl, hw⟩ := hv
  try dsimp only at hw
  refine am_E.run [] 2000 (show (if q5 = (-1) then (True ∧ Q (none) (N, am_ts T, I4, L, am_rs r)) else (if q1 < 0 ∨ 8 ≤ Int32.toNatClampNeg q1 then False else (True ∧ Q (none) (N, am_ts T, (am_u I4 64 (Int32.toNatClampNeg q1) q5), L, am_rs r)))) from ?_)
  by_cases hc : q5 = (-1)
  · rw [if_pos hc] at hw ⊢
    exact ⟨trivial, hK _ hw⟩
  · rw [if_neg hc] at hw ⊢
    refine am_ifn hw.1 ?_
    replace hw := hw.2
    exact ⟨trivial, hK _ hw⟩
/-- KeyKeepersModel.undo()I -/
def w_178 (I : am_I) (K : Int32 → am_I → Prop) : Prop :=
  if (I 66 8) = 0 then
    w_179 (-3) (am_u I 66 0 0) (fun q4 I5 =>
      K q4 I5)
  else
    w_180 ((I 66 8) - 1) (am_u (am_u I 66 0 0) 66 8 ((I 66 8) - 1)) (fun I1 =>
      ¬ ((I1 66 8) < 0 ∨ 16 ≤ Int32.toNatClampNeg (I1 66 8)) ∧
      w_179 (I1 72 (Int32.toNatClampNeg (I1 66 8))) I1 (fun q2 I3 =>
        K q2 I3))
set_option maxRecDepth 100000 in
theorem s_178 {S : am_S} {d : Nat} {N : Nat} {T : Nat → Nat × Nat} {I : am_I} {L : am_J} {r : Nat → Nat → Option Nat} {Q : am_Q} {K : Int32 → am_I → Prop} (hw : w_178 I K) (hK : ∀ (q : Int32) (I1 : am_I), K q I1 → Q (some (.int q)) (N, am_ts T, I1, L, am_rs r)) : am_E S 178 (d + 1) 0 0 0 [.ref 66] [] (N, am_ts T, I, L, am_rs r) Q := by
  unfold w_178 at hw
  try dsimp only at hw
  refine am_E.run [15, 34] 2000 (show (if (I 66 8) = 0 then (am_E S 178 (d + 1) 0 0 15 [.ref 66] [.int (-3), .ref 66] (N, am_ts T, (am_u I 66 0 0), L, am_rs r) Q) else (am_E S 178 (d + 1) 0 0 34 [.ref 66] [.int ((I 66 8) - 1), .ref 66] (N, am_ts T, (am_u (am_u I 66 0 0) 66 8 ((I 66 8) - 1)), L, am_rs r) Q)) from ?_)
  by_cases hc : (I 66 8) = 0
  · rw [if_pos hc] at hw ⊢
    refine am_E.go ⟨am_ki_I N T L r _, s_179 hw (fun q4 I5 hk => ⟨q4, I5, rfl, rfl, hk⟩), ?_⟩
    intro v h9 hv
    obtain ⟨q4, I5, rfl, rfl, hw⟩ := hv
    try dsimp only at hw
    refine am_E.run [] 2000 (show (True ∧ Q (some (.int q4)) (N, am_ts T, I5, L, am_rs r)) from ?_)
    exact ⟨trivial, hK _ _ hw⟩
  · rw [if_neg hc] at hw ⊢
    refine am_E.go ⟨am_kv_I N T L r _, s_180 hw (fun I1 hk => ⟨I1, rfl, rfl, hk⟩), ?_⟩
    intro v h9 hv
    obtain ⟨I1, rfl, rfl, hw⟩ := hv
    try dsimp only at hw
    refine am_E.run [47] 2000 (show (if (I1 66 8) < 0 ∨ 16 ≤ Int32.toNatClampNeg (I1 66 8) then False else (am_E S 178 (d + 1) 0 0 47 [.ref 66] [.int (I1 72 (Int32.toNatClampNeg (I1 66 8))), .ref 66] (N, am_ts T, I1, L, am_rs r) Q)) from ?_)
    refine am_ifn hw.1 ?_
    replace hw := hw.2
    refine am_E.go ⟨am_ki_I N T L r _, s_179 hw (fun q2 I3 hk => ⟨q2, I3, rfl, rfl, hk⟩), ?_⟩
    intro v h9 hv
    obtain ⟨q2, I3, rfl, rfl, hw⟩ := hv
    try dsimp only at hw
    refine am_E.run [] 2000 (show (True ∧ Q (some (.int q2)) (N, am_ts T, I3, L, am_rs r)) from ?_)
    exact ⟨trivial, hK _ _ hw⟩
def lw_181_23 : Nat → Int32 → Int32 → am_I → (Int32 → am_I → Prop) → Prop
  | 0, _, _, _, _ => False
  | n + 1, v1, v2, I, E0 =>
    if (5510 : Int32) ≤ v2 then
      E0 v2 I
    else
      ¬ (v2 < 0 ∨ 5510 ≤ Int32.toNatClampNeg v2) ∧
      ¬ (((5510 * v1) + v2) < 0 ∨ 11020 ≤ Int32.toNatClampNeg ((5510 * v1) + v2)) ∧
      lw_181_23 n v1 (v2 + 1) (am_u I 69 (Int32.toNatClampNeg ((5510 * v1) + v2)) (I 68 (Int32.toNatClampNeg v2))) E0
set_option maxRecDepth 100000 in
theorem sl_181_23 {S : am_S} {d : Nat} {Q : am_Q} {N : Nat} {T : Nat → Nat × Nat} {L : am_J} {r : Nat → Nat → Option Nat} {E0 : Int32 → am_I → Prop} : ∀ (n : Nat) {v1 : Int32} {v2 : Int32} {I : am_I}, lw_181_23 n v1 v2 I E0 → (∀ (o2 : Int32) (I1 : am_I), E0 o2 I1 → am_E S 181 (d + 1) 0 0 54 [.ref 66, .int v1, .int o2] [] (N, am_ts T, I1, L, am_rs r) Q) → am_E S 181 (d + 1) 0 0 23 [.ref 66, .int v1, .int v2] [] (N, am_ts T, I, L, am_rs r) Q
  | 0, _, _, _, hw, _ => hw.elim
  | n + 1, v1, v2, I, hw, hE0 => by
    have ih := @sl_181_23 S d Q N T L r E0 n
    unfold lw_181_23 at hw
    try dsimp only at hw
    refine am_E.run [23, 54] 2000 (show (if (5510 : Int32) ≤ v2 then (am_E S 181 (d + 1) 0 0 54 [.ref 66, .int v1, .int v2] [] (N, am_ts T, I, L, am_rs r) Q) else (if v2 < 0 ∨ 5510 ≤ Int32.toNatClampNeg v2 then False else (if ((5510 * v1) + v2) < 0 ∨ 11020 ≤ Int32.toNatClampNeg ((5510 * v1) + v2) then False else (am_E S 181 (d + 1) 0 0 23 [.ref 66, .int v1, .int (v2 + 1)] [] (N, am_ts T, (am_u I 69 (Int32.toNatClampNeg ((5510 * v1) + v2)) (I 68 (Int32.toNatClampNeg v2))), L, am_rs r) Q)))) from ?_)
    by_cases hc : (5510 : Int32) ≤ v2
    · rw [if_pos hc] at hw ⊢
      exact hE0 _ _ hw
    · rw [if_neg hc] at hw ⊢
      refine am_ifn hw.1 ?_
      replace hw := hw.2
      refine am_ifn hw.1 ?_
      replace hw := hw.2
      exact ih hw hE0
/-- KeyKeepersModel.image(I)I -/
def w_181 (x0 : Int32) (I : am_I) (K : Int32 → am_I → Prop) : Prop :=
  if (f_182 (Int32.toInt64 x0) 0 1) = 0 then
    w_179 (-1) (am_u I 66 0 0) (fun q5 I6 =>
      K q5 I6)
  else
    ∃ n23, lw_181_23 n23 x0 0 (am_u I 66 0 0) (fun o1 I2 =>
      ¬ (x0 < 0 ∨ 2 ≤ Int32.toNatClampNeg x0) ∧
      w_179 0 (am_u I2 70 (Int32.toNatClampNeg x0) (vp_nar .boolean 1)) (fun q3 I4 =>
        K q3 I4))
set_option maxRecDepth 100000 in
theorem s_181 {S : am_S} {d : Nat} {N : Nat} {T : Nat → Nat × Nat} {I : am_I} {L : am_J} {r : Nat → Nat → Option Nat} {Q : am_Q} {x0 : Int32} {K : Int32 → am_I → Prop} (hw : w_181 x0 I K) (hK : ∀ (q : Int32) (I1 : am_I), K q I1 → Q (some (.int q)) (N, am_ts T, I1, L, am_rs r)) : am_E S 181 (d + 1) 0 0 0 [.ref 66, .int x0, am_jk] [] (N, am_ts T, I, L, am_rs r) Q := by
  unfold w_181 at hw
  try dsimp only at hw
  refine am_E.run [9] 2000 (show (am_E S 181 (d + 1) 0 0 9 [.ref 66, .int x0, am_jk] [.long 1, .long 0, .long (Int32.toInt64 x0)] (N, am_ts T, (am_u I 66 0 0), L, am_rs r) Q) from ?_)
  refine am_E.go ⟨fun v h9 => v = some (.int (f_182 (Int32.toInt64 x0) 0 1)) ∧ h9 = (N, am_ts T, (am_u I 66 0 0), L, am_rs r), s_182 ⟨rfl, rfl⟩, ?_⟩
  intro v h9 hv
  obtain ⟨rfl, rfl⟩ := hv
  refine am_E.run [17, 23] 2000 (show (if (f_182 (Int32.toInt64 x0) 0 1) = 0 then (am_E S 181 (d + 1) 0 0 17 [.ref 66, .int x0, am_jk] [.int (-1), .ref 66] (N, am_ts T, (am_u I 66 0 0), L, am_rs r) Q) else (am_E S 181 (d + 1) 0 0 23 [.ref 66, .int x0, .int 0] [] (N, am_ts T, (am_u I 66 0 0), L, am_rs r) Q)) from ?_)
  by_cases hc : (f_182 (Int32.toInt64 x0) 0 1) = 0
  · rw [if_pos hc] at hw ⊢
    refine am_E.go ⟨am_ki_I N T L r _, s_179 hw (fun q5 I6 hk => ⟨q5, I6, rfl, rfl, hk⟩), ?_⟩
    intro v h9 hv
    obtain ⟨q5, I6, rfl, rfl, hw⟩ := hv
    try dsimp only at hw
    refine am_E.run [] 2000 (show (True ∧ Q (some (.int q5)) (N, am_ts T, I6, L, am_rs r)) from ?_)
    exact ⟨trivial, hK _ _ hw⟩
  · rw [if_neg hc] at hw ⊢
    obtain ⟨n23, hw⟩ := hw
    refine sl_181_23 n23 hw (fun o1 I2 hw => ?_)
    · try dsimp only at hw
      refine am_E.run [63] 2000 (show (if x0 < 0 ∨ 2 ≤ Int32.toNatClampNeg x0 then False else (am_E S 181 (d + 1) 0 0 63 [.ref 66, .int x0, .int o1] [.int 0, .ref 66] (N, am_ts T, (am_u I2 70 (Int32.toNatClampNeg x0) (vp_nar .boolean 1)), L, am_rs r) Q)) from ?_)
      refine am_ifn hw.1 ?_
      replace hw := hw.2
      refine am_E.go ⟨am_ki_I N T L r _, s_179 hw (fun q3 I4 hk => ⟨q3, I4, rfl, rfl, hk⟩), ?_⟩
      intro v h9 hv
      obtain ⟨q3, I4, rfl, rfl, hw⟩ := hv
      try dsimp only at hw
      refine am_E.run [] 2000 (show (True ∧ Q (some (.int q3)) (N, am_ts T, I4, L, am_rs r)) from ?_)
      exact ⟨trivial, hK _ _ hw⟩
def lw_183_39 : Nat → Int32 → Int32 → am_I → (Int32 → am_I → Prop) → Prop
  | 0, _, _, _, _ => False
  | n + 1, v1, v2, I, E0 =>
    if (5510 : Int32) ≤ v2 then
      E0 v2 I
    else
      ¬ (((5510 * v1) + v2) < 0 ∨ 11020 ≤ Int32.toNatClampNeg ((5510 * v1) + v2)) ∧
      ¬ (v2 < 0 ∨ 5510 ≤ Int32.toNatClampNeg v2) ∧
      lw_183_39 n v1 (v2 + 1) (am_u I 68 (Int32.toNatClampNeg v2) (I 69 (Int32.toNatClampNeg ((5510 * v1) + v2)))) E0
set_option maxRecDepth 100000 in
theorem sl_183_39 {S : am_S} {d : Nat} {Q : am_Q} {N : Nat} {T : Nat → Nat × Nat} {L : am_J} {r : Nat → Nat → Option Nat} {E0 : Int32 → am_I → Prop} : ∀ (n : Nat) {v1 : Int32} {v2 : Int32} {I : am_I}, lw_183_39 n v1 v2 I E0 → (∀ (o2 : Int32) (I1 : am_I), E0 o2 I1 → am_E S 183 (d + 2) 0 0 70 [.ref 66, .int v1, .int o2] [] (N, am_ts T, I1, L, am_rs r) Q) → am_E S 183 (d + 2) 0 0 39 [.ref 66, .int v1, .int v2] [] (N, am_ts T, I, L, am_rs r) Q
  | 0, _, _, _, hw, _ => hw.elim
  | n + 1, v1, v2, I, hw, hE0 => by
    have ih := @sl_183_39 S d Q N T L r E0 n
    unfold lw_183_39 at hw
    try dsimp only at hw
    refine am_E.run [39, 70] 2000 (show (if (5510 : Int32) ≤ v2 then (am_E S 183 (d + 2) 0 0 70 [.ref 66, .int v1, .int v2] [] (N, am_ts T, I, L, am_rs r) Q) else (if ((5510 * v1) + v2) < 0 ∨ 11020 ≤ Int32.toNatClampNeg ((5510 * v1) + v2) then False else (if v2 < 0 ∨ 5510 ≤ Int32.toNatClampNeg v2 then False else (am_E S 183 (d + 2) 0 0 39 [.ref 66, .int v1, .int (v2 + 1)] [] (N, am_ts T, (am_u I 68 (Int32.toNatClampNeg v2) (I 69 (Int32.toNatClampNeg ((5510 * v1) + v2)))), L, am_rs r) Q)))) from ?_)
    by_cases hc : (5510 : Int32) ≤ v2
    · rw [if_pos hc] at hw ⊢
      exact hE0 _ _ hw
    · rw [if_neg hc] at hw ⊢
      refine am_ifn hw.1 ?_
      replace hw := hw.2
      refine am_ifn hw.1 ?_
      replace hw := hw.2
      exact ih hw hE0
/-- KeyKeepersModel.back(I)I -/
def w_183 (x0 : Int32) (I : am_I) (K : Int32 → am_I → Prop) : Prop :=
  if (f_182 (Int32.toInt64 x0) 0 1) = 0 then
    w_179 (-1) (am_u I 66 0 0) (fun q7 I8 =>
      K q7 I8)
  else
    ¬ (x0 < 0 ∨ 2 ≤ Int32.toNatClampNeg x0) ∧
    if (I 70 (Int32.toNatClampNeg x0)) = 0 then
      w_179 (-2) (am_u I 66 0 0) (fun q5 I6 =>
        K q5 I6)
    else
      ∃ n39, lw_183_39 n39 x0 0 (am_u I 66 0 0) (fun o1 I2 =>
        w_184 0 I2 (fun q3 I4 =>
          K q3 I4))
set_option maxRecDepth 100000 in
theorem s_183 {S : am_S} {d : Nat} {N : Nat} {T : Nat → Nat × Nat} {I : am_I} {L : am_J} {r : Nat → Nat → Option Nat} {Q : am_Q} {x0 : Int32} {K : Int32 → am_I → Prop} (hw : w_183 x0 I K) (hK : ∀ (q : Int32) (I1 : am_I), K q I1 → Q (some (.int q)) (N, am_ts T, I1, L, am_rs r)) : am_E S 183 (d + 2) 0 0 0 [.ref 66, .int x0, am_jk] [] (N, am_ts T, I, L, am_rs r) Q := by
  unfold w_183 at hw
  try dsimp only at hw
  refine am_E.run [9] 2000 (show (am_E S 183 (d + 2) 0 0 9 [.ref 66, .int x0, am_jk] [.long 1, .long 0, .long (Int32.toInt64 x0)] (N, am_ts T, (am_u I 66 0 0), L, am_rs r) Q) from ?_)
  refine am_E.go ⟨fun v h9 => v = some (.int (f_182 (Int32.toInt64 x0) 0 1)) ∧ h9 = (N, am_ts T, (am_u I 66 0 0), L, am_rs r), s_182 ⟨rfl, rfl⟩, ?_⟩
  intro v h9 hv
  obtain ⟨rfl, rfl⟩ := hv
  refine am_E.run [17, 33, 39] 2000 (show (if (f_182 (Int32.toInt64 x0) 0 1) = 0 then (am_E S 183 (d + 2) 0 0 17 [.ref 66, .int x0, am_jk] [.int (-1), .ref 66] (N, am_ts T, (am_u I 66 0 0), L, am_rs r) Q) else (if x0 < 0 ∨ 2 ≤ Int32.toNatClampNeg x0 then False else (if (I 70 (Int32.toNatClampNeg x0)) = 0 then (am_E S 183 (d + 2) 0 0 33 [.ref 66, .int x0, am_jk] [.int (-2), .ref 66] (N, am_ts T, (am_u I 66 0 0), L, am_rs r) Q) else (am_E S 183 (d + 2) 0 0 39 [.ref 66, .int x0, .int 0] [] (N, am_ts T, (am_u I 66 0 0), L, am_rs r) Q)))) from ?_)
  by_cases hc : (f_182 (Int32.toInt64 x0) 0 1) = 0
  · rw [if_pos hc] at hw ⊢
    refine am_E.go ⟨am_ki_I N T L r _, s_179 hw (fun q7 I8 hk => ⟨q7, I8, rfl, rfl, hk⟩), ?_⟩
    intro v h9 hv
    obtain ⟨q7, I8, rfl, rfl, hw⟩ := hv
    try dsimp only at hw
    refine am_E.run [] 2000 (show (True ∧ Q (some (.int q7)) (N, am_ts T, I8, L, am_rs r)) from ?_)
    exact ⟨trivial, hK _ _ hw⟩
  · rw [if_neg hc] at hw ⊢
    refine am_ifn hw.1 ?_
    replace hw := hw.2
    by_cases hc : (I 70 (Int32.toNatClampNeg x0)) = 0
    · rw [if_pos hc] at hw ⊢
      refine am_E.go ⟨am_ki_I N T L r _, s_179 hw (fun q5 I6 hk => ⟨q5, I6, rfl, rfl, hk⟩), ?_⟩
      intro v h9 hv
      obtain ⟨q5, I6, rfl, rfl, hw⟩ := hv
      try dsimp only at hw
      refine am_E.run [] 2000 (show (True ∧ Q (some (.int q5)) (N, am_ts T, I6, L, am_rs r)) from ?_)
      exact ⟨trivial, hK _ _ hw⟩
    · rw [if_neg hc] at hw ⊢
      obtain ⟨n39, hw⟩ := hw
      refine sl_183_39 n39 hw (fun o1 I2 hw => ?_)
      · try dsimp only at hw
        refine am_E.run [72] 2000 (show (am_E S 183 (d + 2) 0 0 72 [.ref 66, .int x0, .int o1] [.int 0, .ref 66] (N, am_ts T, I2, L, am_rs r) Q) from ?_)
        refine am_E.go ⟨am_ki_I N T L r _, s_184 hw (fun q3 I4 hk => ⟨q3, I4, rfl, rfl, hk⟩), ?_⟩
        intro v h9 hv
        obtain ⟨q3, I4, rfl, rfl, hw⟩ := hv
        try dsimp only at hw
        refine am_E.run [] 2000 (show (True ∧ Q (some (.int q3)) (N, am_ts T, I4, L, am_rs r)) from ?_)
        exact ⟨trivial, hK _ _ hw⟩
/-- KeyKeepersModel.wall(II)I -/
def w_186 (x0 : Int32) (x1 : Int32) (I : am_I) (K : Int32 → am_I → Prop) : Prop :=
  if (f_182 (Int32.toInt64 x1) 0 1) = 0 then
    w_179 (-1) (am_u I 66 0 0) (fun q5 I6 =>
      K q5 I6)
  else
    if (f_187 x0 (am_u I 66 0 0)) = 0 then
      w_179 (-2) (am_u I 66 0 0) (fun q1 I2 =>
        K q1 I2)
    else
      w_188 ((58 + (3 * x0)) + 2) x1 (am_u I 66 0 0) (fun q3 I4 =>
        K q3 I4)
set_option maxRecDepth 100000 in
theorem s_186 {S : am_S} {d : Nat} {N : Nat} {T : Nat → Nat × Nat} {I : am_I} {L : am_J} {r : Nat → Nat → Option Nat} {Q : am_Q} {x0 : Int32} {x1 : Int32} {K : Int32 → am_I → Prop} (hw : w_186 x0 x1 I K) (hK : ∀ (q : Int32) (I1 : am_I), K q I1 → Q (some (.int q)) (N, am_ts T, I1, L, am_rs r)) : am_E S 186 (d + 2) 0 0 0 [.ref 66, .int x0, .int x1] [] (N, am_ts T, I, L, am_rs r) Q := by
  unfold w_186 at hw
  try dsimp only at hw
  refine am_E.run [9] 2000 (show (am_E S 186 (d + 2) 0 0 9 [.ref 66, .int x0, .int x1] [.long 1, .long 0, .long (Int32.toInt64 x1)] (N, am_ts T, (am_u I 66 0 0), L, am_rs r) Q) from ?_)
  refine am_E.go ⟨fun v h9 => v = some (.int (f_182 (Int32.toInt64 x1) 0 1)) ∧ h9 = (N, am_ts T, (am_u I 66 0 0), L, am_rs r), s_182 ⟨rfl, rfl⟩, ?_⟩
  intro v h9 hv
  obtain ⟨rfl, rfl⟩ := hv
  refine am_E.run [17, 23] 2000 (show (if (f_182 (Int32.toInt64 x1) 0 1) = 0 then (am_E S 186 (d + 2) 0 0 17 [.ref 66, .int x0, .int x1] [.int (-1), .ref 66] (N, am_ts T, (am_u I 66 0 0), L, am_rs r) Q) else (am_E S 186 (d + 2) 0 0 23 [.ref 66, .int x0, .int x1] [.int x0, .ref 66] (N, am_ts T, (am_u I 66 0 0), L, am_rs r) Q)) from ?_)
  by_cases hc : (f_182 (Int32.toInt64 x1) 0 1) = 0
  · rw [if_pos hc] at hw ⊢
    refine am_E.go ⟨am_ki_I N T L r _, s_179 hw (fun q5 I6 hk => ⟨q5, I6, rfl, rfl, hk⟩), ?_⟩
    intro v h9 hv
    obtain ⟨q5, I6, rfl, rfl, hw⟩ := hv
    try dsimp only at hw
    refine am_E.run [] 2000 (show (True ∧ Q (some (.int q5)) (N, am_ts T, I6, L, am_rs r)) from ?_)
    exact ⟨trivial, hK _ _ hw⟩
  · rw [if_neg hc] at hw ⊢
    refine am_E.go ⟨fun v h9 => v = some (.int (f_187 x0 (am_u I 66 0 0))) ∧ h9 = (N, am_ts T, (am_u I 66 0 0), L, am_rs r), s_187 ⟨rfl, rfl⟩, ?_⟩
    intro v h9 hv
    obtain ⟨rfl, rfl⟩ := hv
    refine am_E.run [39, 48] 2000 (show (if (f_187 x0 (am_u I 66 0 0)) = 0 then (am_E S 186 (d + 2) 0 0 48 [.ref 66, .int x0, .int x1] [.int (-2), .ref 66] (N, am_ts T, (am_u I 66 0 0), L, am_rs r) Q) else (am_E S 186 (d + 2) 0 0 39 [.ref 66, .int x0, .int x1] [.int x1, .int ((58 + (3 * x0)) + 2), .ref 66] (N, am_ts T, (am_u I 66 0 0), L, am_rs r) Q)) from ?_)
    by_cases hc : (f_187 x0 (am_u I 66 0 0)) = 0
    · rw [if_pos hc] at hw ⊢
      refine am_E.go ⟨am_ki_I N T L r _, s_179 hw (fun q1 I2 hk => ⟨q1, I2, rfl, rfl, hk⟩), ?_⟩
      intro v h9 hv
      obtain ⟨q1, I2, rfl, rfl, hw⟩ := hv
      try dsimp only at hw
      refine am_E.run [] 2000 (show (True ∧ Q (some (.int q1)) (N, am_ts T, I2, L, am_rs r)) from ?_)
      exact ⟨trivial, hK _ _ hw⟩
    · rw [if_neg hc] at hw ⊢
      refine am_E.go ⟨am_ki_I N T L r _, s_188 hw (fun q3 I4 hk => ⟨q3, I4, rfl, rfl, hk⟩), ?_⟩
      intro v h9 hv
      obtain ⟨q3, I4, rfl, rfl, hw⟩ := hv
      try dsimp only at hw
      refine am_E.run [] 2000 (show (True ∧ Q (some (.int q3)) (N, am_ts T, I4, L, am_rs r)) from ?_)
      exact ⟨trivial, hK _ _ hw⟩
/-- KeyKeepersModel.prisoner(III)I -/
def w_189 (x0 : Int32) (x1 : Int32) (x2 : Int32) (I : am_I) (K : Int32 → am_I → Prop) : Prop :=
  w_190 x0 x1 x2 (am_u I 66 0 0) (fun q1 I2 =>
    w_184 q1 I2 (fun q3 I4 =>
      K q3 I4))
set_option maxRecDepth 100000 in
theorem s_189 {S : am_S} {d : Nat} {N : Nat} {T : Nat → Nat × Nat} {I : am_I} {L : am_J} {r : Nat → Nat → Option Nat} {Q : am_Q} {x0 : Int32} {x1 : Int32} {x2 : Int32} {K : Int32 → am_I → Prop} (hw : w_189 x0 x1 x2 I K) (hK : ∀ (q : Int32) (I1 : am_I), K q I1 → Q (some (.int q)) (N, am_ts T, I1, L, am_rs r)) : am_E S 189 (d + 2) 0 0 0 [.ref 66, .int x0, .int x1, .int x2] [] (N, am_ts T, I, L, am_rs r) Q := by
  unfold w_189 at hw
  try dsimp only at hw
  refine am_E.run [10] 2000 (show (am_E S 189 (d + 2) 0 0 10 [.ref 66, .int x0, .int x1, .int x2] [.int x2, .int x1, .int x0, .ref 66, .ref 66] (N, am_ts T, (am_u I 66 0 0), L, am_rs r) Q) from ?_)
  refine am_E.go ⟨am_ki_I N T L r _, s_190 hw (fun q1 I2 hk => ⟨q1, I2, rfl, rfl, hk⟩), ?_⟩
  intro v h9 hv
  obtain ⟨q1, I2, rfl, rfl, hw⟩ := hv
  try dsimp only at hw
  show (am_E S 189 (d + 2) 0 0 13 [.ref 66, .int x0, .int x1, .int x2] [.int q1, .ref 66] (N, am_ts T, I2, L, am_rs r) Q)
  refine am_E.go ⟨am_ki_I N T L r _, s_184 hw (fun q3 I4 hk => ⟨q3, I4, rfl, rfl, hk⟩), ?_⟩
  intro v h9 hv
  obtain ⟨q3, I4, rfl, rfl, hw⟩ := hv
  try dsimp only at hw
  refine am_E.run [] 2000 (show (True ∧ Q (some (.int q3)) (N, am_ts T, I4, L, am_rs r)) from ?_)
  exact ⟨trivial, hK _ _ hw⟩
/-- KeyKeepersModel.of(II)I -/
def w_191 (x0 : Int32) (x1 : Int32) (I : am_I) (K : Int32 → am_I → Prop) : Prop :=
  if (f_192 x0 (am_u I 66 0 0)) = 0 then
    K (-1) (am_u I 66 0 0)
  else
    if x1 = 0 then
      ¬ ((26 + x0) < 0 ∨ 5510 ≤ Int32.toNatClampNeg (26 + x0)) ∧
      K (I 68 (Int32.toNatClampNeg (26 + x0))) (am_u I 66 0 0)
    else
    if x1 = 1 then
      ¬ ((34 + x0) < 0 ∨ 5510 ≤ Int32.toNatClampNeg (34 + x0)) ∧
      K (I 68 (Int32.toNatClampNeg (34 + x0))) (am_u I 66 0 0)
    else
    if x1 = 2 then
      ¬ ((10 + x0) < 0 ∨ 5510 ≤ Int32.toNatClampNeg (10 + x0)) ∧
      K (I 68 (Int32.toNatClampNeg (10 + x0))) (am_u I 66 0 0)
    else
    if x1 = 3 then
      ¬ ((18 + x0) < 0 ∨ 5510 ≤ Int32.toNatClampNeg (18 + x0)) ∧
      K (I 68 (Int32.toNatClampNeg (18 + x0))) (am_u I 66 0 0)
    else
    if x1 = 4 then
      ¬ ((42 + x0) < 0 ∨ 5510 ≤ Int32.toNatClampNeg (42 + x0)) ∧
      K (I 68 (Int32.toNatClampNeg (42 + x0))) (am_u I 66 0 0)
    else
    if x1 = 5 then
      ¬ ((50 + x0) < 0 ∨ 5510 ≤ Int32.toNatClampNeg (50 + x0)) ∧
      K (I 68 (Int32.toNatClampNeg (50 + x0))) (am_u I 66 0 0)
    else
    K (-1) (am_u I 66 0 0)
set_option maxRecDepth 100000 in
theorem s_191 {S : am_S} {d : Nat} {N : Nat} {T : Nat → Nat × Nat} {I : am_I} {L : am_J} {r : Nat → Nat → Option Nat} {Q : am_Q} {x0 : Int32} {x1 : Int32} {K : Int32 → am_I → Prop} (hw : w_191 x0 x1 I K) (hK : ∀ (q : Int32) (I1 : am_I), K q I1 → Q (some (.int q)) (N, am_ts T, I1, L, am_rs r)) : am_E S 191 (d + 2) 0 0 0 [.ref 66, .int x0, .int x1] [] (N, am_ts T, I, L, am_rs r) Q := by
  unfold w_191 at hw
  try dsimp only at hw
  refine am_E.run [7] 2000 (show (am_E S 191 (d + 2) 0 0 7 [.ref 66, .int x0, .int x1] [.int x0, .ref 66] (N, am_ts T, (am_u I 66 0 0), L, am_rs r) Q) from ?_)
  refine am_E.go ⟨fun v h9 => v = some (.int (f_192 x0 (am_u I 66 0 0))) ∧ h9 = (N, am_ts T, (am_u I 66 0 0), L, am_rs r), s_192 ⟨rfl, rfl⟩, ?_⟩
  intro v h9 hv
  obtain ⟨rfl, rfl⟩ := hv
  refine am_E.run [16] 2000 (show (if (f_192 x0 (am_u I 66 0 0)) = 0 then (True ∧ Q (some (.int (-1))) (N, am_ts T, (am_u I 66 0 0), L, am_rs r)) else (am_E S 191 (d + 2) 0 0 16 [.ref 66, .int x0, .int x1] [.int x1] (N, am_ts T, (am_u I 66 0 0), L, am_rs r) Q)) from ?_)
  by_cases hc : (f_192 x0 (am_u I 66 0 0)) = 0
  · rw [if_pos hc] at hw ⊢
    exact ⟨trivial, hK _ _ hw⟩
  · rw [if_neg hc] at hw ⊢
    by_cases hc0 : x1 = 0
    · rw [if_pos hc0] at hw
      refine am_E.swap (k := 0) hc0 ?_
      refine am_E.go (show (am_E S 191 (d + 2) 0 0 56 [.ref 66, .int x0, .int x1] [] (N, am_ts T, (am_u I 66 0 0), L, am_rs r) Q) from ?_)
      refine am_E.run [] 2000 (show (if (26 + x0) < 0 ∨ 5510 ≤ Int32.toNatClampNeg (26 + x0) then False else (True ∧ Q (some (.int (I 68 (Int32.toNatClampNeg (26 + x0))))) (N, am_ts T, (am_u I 66 0 0), L, am_rs r))) from ?_)
      refine am_ifn hw.1 ?_
      replace hw := hw.2
      exact ⟨trivial, hK _ _ hw⟩
    rw [if_neg hc0] at hw
    by_cases hc1 : x1 = 1
    · rw [if_pos hc1] at hw
      refine am_E.swap (k := 1) hc1 ?_
      refine am_E.go (show (am_E S 191 (d + 2) 0 0 66 [.ref 66, .int x0, .int x1] [] (N, am_ts T, (am_u I 66 0 0), L, am_rs r) Q) from ?_)
      refine am_E.run [] 2000 (show (if (34 + x0) < 0 ∨ 5510 ≤ Int32.toNatClampNeg (34 + x0) then False else (True ∧ Q (some (.int (I 68 (Int32.toNatClampNeg (34 + x0))))) (N, am_ts T, (am_u I 66 0 0), L, am_rs r))) from ?_)
      refine am_ifn hw.1 ?_
      replace hw := hw.2
      exact ⟨trivial, hK _ _ hw⟩
    rw [if_neg hc1] at hw
    by_cases hc2 : x1 = 2
    · rw [if_pos hc2] at hw
      refine am_E.swap (k := 2) hc2 ?_
      refine am_E.go (show (am_E S 191 (d + 2) 0 0 76 [.ref 66, .int x0, .int x1] [] (N, am_ts T, (am_u I 66 0 0), L, am_rs r) Q) from ?_)
      refine am_E.run [] 2000 (show (if (10 + x0) < 0 ∨ 5510 ≤ Int32.toNatClampNeg (10 + x0) then False else (True ∧ Q (some (.int (I 68 (Int32.toNatClampNeg (10 + x0))))) (N, am_ts T, (am_u I 66 0 0), L, am_rs r))) from ?_)
      refine am_ifn hw.1 ?_
      replace hw := hw.2
      exact ⟨trivial, hK _ _ hw⟩
    rw [if_neg hc2] at hw
    by_cases hc3 : x1 = 3
    · rw [if_pos hc3] at hw
      refine am_E.swap (k := 3) hc3 ?_
      refine am_E.go (show (am_E S 191 (d + 2) 0 0 86 [.ref 66, .int x0, .int x1] [] (N, am_ts T, (am_u I 66 0 0), L, am_rs r) Q) from ?_)
      refine am_E.run [] 2000 (show (if (18 + x0) < 0 ∨ 5510 ≤ Int32.toNatClampNeg (18 + x0) then False else (True ∧ Q (some (.int (I 68 (Int32.toNatClampNeg (18 + x0))))) (N, am_ts T, (am_u I 66 0 0), L, am_rs r))) from ?_)
      refine am_ifn hw.1 ?_
      replace hw := hw.2
      exact ⟨trivial, hK _ _ hw⟩
    rw [if_neg hc3] at hw
    by_cases hc4 : x1 = 4
    · rw [if_pos hc4] at hw
      refine am_E.swap (k := 4) hc4 ?_
      refine am_E.go (show (am_E S 191 (d + 2) 0 0 96 [.ref 66, .int x0, .int x1] [] (N, am_ts T, (am_u I 66 0 0), L, am_rs r) Q) from ?_)
      refine am_E.run [] 2000 (show (if (42 + x0) < 0 ∨ 5510 ≤ Int32.toNatClampNeg (42 + x0) then False else (True ∧ Q (some (.int (I 68 (Int32.toNatClampNeg (42 + x0))))) (N, am_ts T, (am_u I 66 0 0), L, am_rs r))) from ?_)
      refine am_ifn hw.1 ?_
      replace hw := hw.2
      exact ⟨trivial, hK _ _ hw⟩
    rw [if_neg hc4] at hw
    by_cases hc5 : x1 = 5
    · rw [if_pos hc5] at hw
      refine am_E.swap (k := 5) hc5 ?_
      refine am_E.go (show (am_E S 191 (d + 2) 0 0 106 [.ref 66, .int x0, .int x1] [] (N, am_ts T, (am_u I 66 0 0), L, am_rs r) Q) from ?_)
      refine am_E.run [] 2000 (show (if (50 + x0) < 0 ∨ 5510 ≤ Int32.toNatClampNeg (50 + x0) then False else (True ∧ Q (some (.int (I 68 (Int32.toNatClampNeg (50 + x0))))) (N, am_ts T, (am_u I 66 0 0), L, am_rs r))) from ?_)
      refine am_ifn hw.1 ?_
      replace hw := hw.2
      exact ⟨trivial, hK _ _ hw⟩
    rw [if_neg hc5] at hw
    have hd : (x1).toInt < 0 ∨ 5 < (x1).toInt := by
      have g0 := am_ine hc0
      have g1 := am_ine hc1
      have g2 := am_ine hc2
      have g3 := am_ine hc3
      have g4 := am_ine hc4
      have g5 := am_ine hc5
      change (x1).toInt ≠ 0 at g0
      change (x1).toInt ≠ 1 at g1
      change (x1).toInt ≠ 2 at g2
      change (x1).toInt ≠ 3 at g3
      change (x1).toInt ≠ 4 at g4
      change (x1).toInt ≠ 5 at g5
      omega
    refine am_E.go (show (if (x1).toInt < 0 ∨ 5 < (x1).toInt then (am_E S 191 (d + 2) 0 0 116 [.ref 66, .int x0, .int x1] [] (N, am_ts T, (am_u I 66 0 0), L, am_rs r) Q) else _) from ?_)
    rw [if_pos hd]
    refine am_E.run [] 2000 (show (True ∧ Q (some (.int (-1))) (N, am_ts T, (am_u I 66 0 0), L, am_rs r)) from ?_)
    exact ⟨trivial, hK _ _ hw⟩
/-- KeyKeepersModel.key(III)I -/
def w_193 (x0 : Int32) (x1 : Int32) (x2 : Int32) (I : am_I) (K : Int32 → am_I → Prop) : Prop :=
  if (f_182 (Int32.toInt64 x2) 0 1) = 0 then
    w_179 (-1) (am_u I 66 0 0) (fun q7 I8 =>
      K q7 I8)
  else
    if (f_192 x0 (am_u I 66 0 0)) = 0 then
      w_179 (-2) (am_u I 66 0 0) (fun q1 I2 =>
        K q1 I2)
    else
      if (f_187 x1 (am_u I 66 0 0)) = 0 then
        w_179 (-2) (am_u I 66 0 0) (fun q5 I6 =>
          K q5 I6)
      else
        w_194 (18 + x0) x1 x2 (am_u (am_u I 66 0 0) 66 8 0) (fun q3 I4 =>
          K q3 I4)
set_option maxRecDepth 100000 in
theorem s_193 {S : am_S} {d : Nat} {N : Nat} {T : Nat → Nat × Nat} {I : am_I} {L : am_J} {r : Nat → Nat → Option Nat} {Q : am_Q} {x0 : Int32} {x1 : Int32} {x2 : Int32} {K : Int32 → am_I → Prop} (hw : w_193 x0 x1 x2 I K) (hK : ∀ (q : Int32) (I1 : am_I), K q I1 → Q (some (.int q)) (N, am_ts T, I1, L, am_rs r)) : am_E S 193 (d + 2) 0 0 0 [.ref 66, .int x0, .int x1, .int x2] [] (N, am_ts T, I, L, am_rs r) Q := by
  unfold w_193 at hw
  try dsimp only at hw
  refine am_E.run [9] 2000 (show (am_E S 193 (d + 2) 0 0 9 [.ref 66, .int x0, .int x1, .int x2] [.long 1, .long 0, .long (Int32.toInt64 x2)] (N, am_ts T, (am_u I 66 0 0), L, am_rs r) Q) from ?_)
  refine am_E.go ⟨fun v h9 => v = some (.int (f_182 (Int32.toInt64 x2) 0 1)) ∧ h9 = (N, am_ts T, (am_u I 66 0 0), L, am_rs r), s_182 ⟨rfl, rfl⟩, ?_⟩
  intro v h9 hv
  obtain ⟨rfl, rfl⟩ := hv
  refine am_E.run [17, 23] 2000 (show (if (f_182 (Int32.toInt64 x2) 0 1) = 0 then (am_E S 193 (d + 2) 0 0 17 [.ref 66, .int x0, .int x1, .int x2] [.int (-1), .ref 66] (N, am_ts T, (am_u I 66 0 0), L, am_rs r) Q) else (am_E S 193 (d + 2) 0 0 23 [.ref 66, .int x0, .int x1, .int x2] [.int x0, .ref 66] (N, am_ts T, (am_u I 66 0 0), L, am_rs r) Q)) from ?_)
  by_cases hc : (f_182 (Int32.toInt64 x2) 0 1) = 0
  · rw [if_pos hc] at hw ⊢
    refine am_E.go ⟨am_ki_I N T L r _, s_179 hw (fun q7 I8 hk => ⟨q7, I8, rfl, rfl, hk⟩), ?_⟩
    intro v h9 hv
    obtain ⟨q7, I8, rfl, rfl, hw⟩ := hv
    try dsimp only at hw
    refine am_E.run [] 2000 (show (True ∧ Q (some (.int q7)) (N, am_ts T, I8, L, am_rs r)) from ?_)
    exact ⟨trivial, hK _ _ hw⟩
  · rw [if_neg hc] at hw ⊢
    refine am_E.go ⟨fun v h9 => v = some (.int (f_192 x0 (am_u I 66 0 0))) ∧ h9 = (N, am_ts T, (am_u I 66 0 0), L, am_rs r), s_192 ⟨rfl, rfl⟩, ?_⟩
    intro v h9 hv
    obtain ⟨rfl, rfl⟩ := hv
    refine am_E.run [31, 40] 2000 (show (if (f_192 x0 (am_u I 66 0 0)) = 0 then (am_E S 193 (d + 2) 0 0 40 [.ref 66, .int x0, .int x1, .int x2] [.int (-2), .ref 66] (N, am_ts T, (am_u I 66 0 0), L, am_rs r) Q) else (am_E S 193 (d + 2) 0 0 31 [.ref 66, .int x0, .int x1, .int x2] [.int x1, .ref 66] (N, am_ts T, (am_u I 66 0 0), L, am_rs r) Q)) from ?_)
    by_cases hc : (f_192 x0 (am_u I 66 0 0)) = 0
    · rw [if_pos hc] at hw ⊢
      refine am_E.go ⟨am_ki_I N T L r _, s_179 hw (fun q1 I2 hk => ⟨q1, I2, rfl, rfl, hk⟩), ?_⟩
      intro v h9 hv
      obtain ⟨q1, I2, rfl, rfl, hw⟩ := hv
      try dsimp only at hw
      refine am_E.run [] 2000 (show (True ∧ Q (some (.int q1)) (N, am_ts T, I2, L, am_rs r)) from ?_)
      exact ⟨trivial, hK _ _ hw⟩
    · rw [if_neg hc] at hw ⊢
      refine am_E.go ⟨fun v h9 => v = some (.int (f_187 x1 (am_u I 66 0 0))) ∧ h9 = (N, am_ts T, (am_u I 66 0 0), L, am_rs r), s_187 ⟨rfl, rfl⟩, ?_⟩
      intro v h9 hv
      obtain ⟨rfl, rfl⟩ := hv
      refine am_E.run [40, 56] 2000 (show (if (f_187 x1 (am_u I 66 0 0)) = 0 then (am_E S 193 (d + 2) 0 0 40 [.ref 66, .int x0, .int x1, .int x2] [.int (-2), .ref 66] (N, am_ts T, (am_u I 66 0 0), L, am_rs r) Q) else (am_E S 193 (d + 2) 0 0 56 [.ref 66, .int x0, .int x1, .int x2] [.int x2, .int x1, .int (18 + x0), .ref 66] (N, am_ts T, (am_u (am_u I 66 0 0) 66 8 0), L, am_rs r) Q)) from ?_)
      by_cases hc : (f_187 x1 (am_u I 66 0 0)) = 0
      · rw [if_pos hc] at hw ⊢
        refine am_E.go ⟨am_ki_I N T L r _, s_179 hw (fun q5 I6 hk => ⟨q5, I6, rfl, rfl, hk⟩), ?_⟩
        intro v h9 hv
        obtain ⟨q5, I6, rfl, rfl, hw⟩ := hv
        try dsimp only at hw
        refine am_E.run [] 2000 (show (True ∧ Q (some (.int q5)) (N, am_ts T, I6, L, am_rs r)) from ?_)
        exact ⟨trivial, hK _ _ hw⟩
      · rw [if_neg hc] at hw ⊢
        refine am_E.go ⟨am_ki_I N T L r _, s_194 hw (fun q3 I4 hk => ⟨q3, I4, rfl, rfl, hk⟩), ?_⟩
        intro v h9 hv
        obtain ⟨q3, I4, rfl, rfl, hw⟩ := hv
        try dsimp only at hw
        refine am_E.run [] 2000 (show (True ∧ Q (some (.int q3)) (N, am_ts T, I4, L, am_rs r)) from ?_)
        exact ⟨trivial, hK _ _ hw⟩
/-- KeyKeepersModel.feed(IIIII)I -/
def w_200 (x0 : Int32) (x1 : Int32) (x2 : Int32) (x3 : Int32) (x4 : Int32) (I : am_I) (K : Int32 → am_I → Prop) : Prop :=
  if ((I 66 13) + 20) ≤ 400 then
    w_201 x0 (am_u I 66 0 0) (fun I1 =>
      w_201 x1 I1 (fun I2 =>
        w_201 x2 I2 (fun I3 =>
          w_201 x3 I3 (fun I4 =>
            w_201 x4 I4 (fun I5 =>
              K (I5 66 13) I5)))))
  else
    K (-1) (am_u I 66 0 0)
set_option maxRecDepth 100000 in
theorem s_200 {S : am_S} {d : Nat} {N : Nat} {T : Nat → Nat × Nat} {I : am_I} {L : am_J} {r : Nat → Nat → Option Nat} {Q : am_Q} {x0 : Int32} {x1 : Int32} {x2 : Int32} {x3 : Int32} {x4 : Int32} {K : Int32 → am_I → Prop} (hw : w_200 x0 x1 x2 x3 x4 I K) (hK : ∀ (q : Int32) (I1 : am_I), K q I1 → Q (some (.int q)) (N, am_ts T, I1, L, am_rs r)) : am_E S 200 (d + 1) 0 0 0 [.ref 66, .int x0, .int x1, .int x2, .int x3, .int x4] [] (N, am_ts T, I, L, am_rs r) Q := by
  unfold w_200 at hw
  try dsimp only at hw
  refine am_E.run [22] 2000 (show (if ((I 66 13) + 20) ≤ 400 then (am_E S 200 (d + 1) 0 0 22 [.ref 66, .int x0, .int x1, .int x2, .int x3, .int x4] [.int x0, .ref 66] (N, am_ts T, (am_u I 66 0 0), L, am_rs r) Q) else (True ∧ Q (some (.int (-1))) (N, am_ts T, (am_u I 66 0 0), L, am_rs r))) from ?_)
  by_cases hc : ((I 66 13) + 20) ≤ 400
  · rw [if_pos hc] at hw ⊢
    refine am_E.go ⟨am_kv_I N T L r _, s_201 hw (fun I1 hk => ⟨I1, rfl, rfl, hk⟩), ?_⟩
    intro v h9 hv
    obtain ⟨I1, rfl, rfl, hw⟩ := hv
    try dsimp only at hw
    refine am_E.run [27] 2000 (show (am_E S 200 (d + 1) 0 0 27 [.ref 66, .int x0, .int x1, .int x2, .int x3, .int x4] [.int x1, .ref 66] (N, am_ts T, I1, L, am_rs r) Q) from ?_)
    refine am_E.go ⟨am_kv_I N T L r _, s_201 hw (fun I2 hk => ⟨I2, rfl, rfl, hk⟩), ?_⟩
    intro v h9 hv
    obtain ⟨I2, rfl, rfl, hw⟩ := hv
    try dsimp only at hw
    refine am_E.run [32] 2000 (show (am_E S 200 (d + 1) 0 0 32 [.ref 66, .int x0, .int x1, .int x2, .int x3, .int x4] [.int x2, .ref 66] (N, am_ts T, I2, L, am_rs r) Q) from ?_)
    refine am_E.go ⟨am_kv_I N T L r _, s_201 hw (fun I3 hk => ⟨I3, rfl, rfl, hk⟩), ?_⟩
    intro v h9 hv
    obtain ⟨I3, rfl, rfl, hw⟩ := hv
    try dsimp only at hw
    refine am_E.run [38] 2000 (show (am_E S 200 (d + 1) 0 0 38 [.ref 66, .int x0, .int x1, .int x2, .int x3, .int x4] [.int x3, .ref 66] (N, am_ts T, I3, L, am_rs r) Q) from ?_)
    refine am_E.go ⟨am_kv_I N T L r _, s_201 hw (fun I4 hk => ⟨I4, rfl, rfl, hk⟩), ?_⟩
    intro v h9 hv
    obtain ⟨I4, rfl, rfl, hw⟩ := hv
    try dsimp only at hw
    refine am_E.run [44] 2000 (show (am_E S 200 (d + 1) 0 0 44 [.ref 66, .int x0, .int x1, .int x2, .int x3, .int x4] [.int x4, .ref 66] (N, am_ts T, I4, L, am_rs r) Q) from ?_)
    refine am_E.go ⟨am_kv_I N T L r _, s_201 hw (fun I5 hk => ⟨I5, rfl, rfl, hk⟩), ?_⟩
    intro v h9 hv
    obtain ⟨I5, rfl, rfl, hw⟩ := hv
    try dsimp only at hw
    refine am_E.run [] 2000 (show (True ∧ Q (some (.int (I5 66 13))) (N, am_ts T, I5, L, am_rs r)) from ?_)
    exact ⟨trivial, hK _ _ hw⟩
  · rw [if_neg hc] at hw ⊢
    exact ⟨trivial, hK _ _ hw⟩
