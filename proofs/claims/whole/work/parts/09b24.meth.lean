/-- KeyKeepers$Goings.walk(LKeyKeepers$Prison;II)I -/
def w_94 (x1 : Int32) (x2 : Int32) (T : Nat → Nat × Nat) (r : Nat → Nat → Option Nat) (I : am_I) (K : Int32 → am_I → Prop) : Prop :=
  if (f_27 x1 I) = 0 then
    K (-2) I
  else
    if (f_19 x2 I) = 0 then
      K (-2) I
    else
      w_95 x1 x2 6 T r I (fun q1 =>
        if q1 = (-1) then
          K (-3) I
        else
          ¬ (x1 < 0 ∨ 8 ≤ Int32.toNatClampNeg x1) ∧
          w_97 0 x1 (I 6 (Int32.toNatClampNeg x1)) 0 0 T r I (fun I2 =>
            ¬ (x1 < 0 ∨ 8 ≤ Int32.toNatClampNeg x1) ∧
            K q1 (am_u I2 6 (Int32.toNatClampNeg x1) q1)))
set_option maxRecDepth 100000 in
theorem s_94 {S : am_S} {d : Nat} {N : Nat} {T : Nat → Nat × Nat} {I : am_I} {L : am_J} {r : Nat → Nat → Option Nat} {Q : am_Q} {x1 : Int32} {x2 : Int32} {K : Int32 → am_I → Prop} (hw : w_94 x1 x2 T r I K) (hK : ∀ (q : Int32) (I1 : am_I), K q I1 → Q (some (.int q)) (N, am_ts T, I1, L, am_rs r)) : am_E S 94 (d + 3) 0 0 0 [.ref 29, .ref 1, .int x1, .int x2, am_jk] [] (N, am_ts T, I, L, am_rs r) Q := by
  unfold w_94 at hw
  try dsimp only at hw
  refine am_E.run [2] 2000 (show (am_E S 94 (d + 3) 0 0 2 [.ref 29, .ref 1, .int x1, .int x2, am_jk] [.int x1, .ref 1] (N, am_ts T, I, L, am_rs r) Q) from ?_)
  refine am_E.go ⟨fun v h9 => v = some (.int (f_27 x1 I)) ∧ h9 = (N, am_ts T, I, L, am_rs r), s_27 ⟨rfl, rfl⟩, ?_⟩
  intro v h9 hv
  obtain ⟨rfl, rfl⟩ := hv
  refine am_E.run [10] 2000 (show (if (f_27 x1 I) = 0 then (True ∧ Q (some (.int (-2))) (N, am_ts T, I, L, am_rs r)) else (am_E S 94 (d + 3) 0 0 10 [.ref 29, .ref 1, .int x1, .int x2, am_jk] [.int x2, .ref 1] (N, am_ts T, I, L, am_rs r) Q)) from ?_)
  by_cases hc : (f_27 x1 I) = 0
  · rw [if_pos hc] at hw ⊢
    exact ⟨trivial, hK _ _ hw⟩
  · rw [if_neg hc] at hw ⊢
    refine am_E.go ⟨fun v h9 => v = some (.int (f_19 x2 I)) ∧ h9 = (N, am_ts T, I, L, am_rs r), s_19 ⟨rfl, rfl⟩, ?_⟩
    intro v h9 hv
    obtain ⟨rfl, rfl⟩ := hv
    refine am_E.run [26] 2000 (show (if (f_19 x2 I) = 0 then (True ∧ Q (some (.int (-2))) (N, am_ts T, I, L, am_rs r)) else (am_E S 94 (d + 3) 0 0 26 [.ref 29, .ref 1, .int x1, .int x2, am_jk] [.ref 6, .int x2, .int x1, .ref 1] (N, am_ts T, I, L, am_rs r) Q)) from ?_)
    by_cases hc : (f_19 x2 I) = 0
    · rw [if_pos hc] at hw ⊢
      exact ⟨trivial, hK _ _ hw⟩
    · rw [if_neg hc] at hw ⊢
      refine am_E.go ⟨am_ki_ N T I L r _, s_95 hw (fun q1 hk => ⟨q1, rfl, rfl, hk⟩), ?_⟩
      intro v h9 hv
      obtain ⟨q1, rfl, rfl, hw⟩ := hv
      try dsimp only at hw
      refine am_E.run [51] 2000 (show (if q1 = (-1) then (True ∧ Q (some (.int (-3))) (N, am_ts T, I, L, am_rs r)) else (if x1 < 0 ∨ 8 ≤ Int32.toNatClampNeg x1 then False else (am_E S 94 (d + 3) 0 0 51 [.ref 29, .ref 1, .int x1, .int x2, .int q1] [.int 0, .int 0, .int (I 6 (Int32.toNatClampNeg x1)), .int x1, .int 0, .ref 29] (N, am_ts T, I, L, am_rs r) Q))) from ?_)
      by_cases hc : q1 = (-1)
      · rw [if_pos hc] at hw ⊢
        exact ⟨trivial, hK _ _ hw⟩
      · rw [if_neg hc] at hw ⊢
        refine am_ifn hw.1 ?_
        replace hw := hw.2
        refine am_E.go ⟨am_kv_I N T L r _, s_97 hw (fun I2 hk => ⟨I2, rfl, rfl, hk⟩), ?_⟩
        intro v h9 hv
        obtain ⟨I2, rfl, rfl, hw⟩ := hv
        try dsimp only at hw
        refine am_E.run [] 2000 (show (if x1 < 0 ∨ 8 ≤ Int32.toNatClampNeg x1 then False else (True ∧ Q (some (.int q1)) (N, am_ts T, (am_u I2 6 (Int32.toNatClampNeg x1) q1), L, am_rs r))) from ?_)
        refine am_ifn hw.1 ?_
        replace hw := hw.2
        exact ⟨trivial, hK _ _ hw⟩
/-- KeyKeepers$Judge.costOf(LKeyKeepers$Prison;LKeyKeepers$Text;III)I -/
def w_109n (x2 : Int32) (x3 : Int32) (x4 : Int32) (I : am_I) (K : Int32 → am_I → Prop) : Prop :=
  w_110 x2 x3 x4 (-1) I (fun I1 =>
    ¬ (x2 < 0 ∨ 8 ≤ Int32.toNatClampNeg x2) ∧
    K (f_112n 0 ((I1 5 (Int32.toNatClampNeg x2)) + 1)) I1)
set_option maxRecDepth 100000 in
theorem s_109n {S : am_S} {d : Nat} {N : Nat} {T : Nat → Nat × Nat} {I : am_I} {L : am_J} {r : Nat → Nat → Option Nat} {Q : am_Q} {x2 : Int32} {x3 : Int32} {x4 : Int32} {K : Int32 → am_I → Prop} (hw : w_109n x2 x3 x4 I K) (hK : ∀ (q : Int32) (I1 : am_I), K q I1 → Q (some (.int q)) (N, am_ts T, I1, L, am_rs r)) : am_E S 109 (d + 2) 0 0 0 [.ref 23, .ref 1, .null, .int x2, .int x3, .int x4] [] (N, am_ts T, I, L, am_rs r) Q := by
  unfold w_109n at hw
  try dsimp only at hw
  refine am_E.run [8] 2000 (show (am_E S 109 (d + 2) 0 0 8 [.ref 23, .ref 1, .null, .int x2, .int x3, .int x4] [.int (-1), .int x4, .int x3, .int x2, .ref 1, .ref 23] (N, am_ts T, I, L, am_rs r) Q) from ?_)
  refine am_E.go ⟨am_kv_I N T L r _, s_110 hw (fun I1 hk => ⟨I1, rfl, rfl, hk⟩), ?_⟩
  intro v h9 hv
  obtain ⟨I1, rfl, rfl, hw⟩ := hv
  try dsimp only at hw
  refine am_E.run [23] 2000 (show (if x2 < 0 ∨ 8 ≤ Int32.toNatClampNeg x2 then False else (am_E S 109 (d + 2) 0 0 23 [.ref 23, .ref 1, .null, .int x2, .int x3, .int x4] [.int ((I1 5 (Int32.toNatClampNeg x2)) + 1), .int 0, .null, .ref 1, .ref 23] (N, am_ts T, I1, L, am_rs r) Q)) from ?_)
  refine am_ifn hw.1 ?_
  replace hw := hw.2
  refine am_E.go ⟨fun v h9 => v = some (.int (f_112n 0 ((I1 5 (Int32.toNatClampNeg x2)) + 1))) ∧ h9 = (N, am_ts T, I1, L, am_rs r), s_112n ⟨rfl, rfl⟩, ?_⟩
  intro v h9 hv
  obtain ⟨rfl, rfl⟩ := hv
  refine am_E.run [] 2000 (show (True ∧ Q (some (.int (f_112n 0 ((I1 5 (Int32.toNatClampNeg x2)) + 1)))) (N, am_ts T, I1, L, am_rs r)) from ?_)
  exact ⟨trivial, hK _ _ hw⟩
/-- KeyKeepers$Judge.costOf(LKeyKeepers$Prison;LKeyKeepers$Text;III)I -/
def w_109s (x1 : Nat) (x2 : Int32) (x3 : Int32) (x4 : Int32) (T : Nat → Nat × Nat) (r : Nat → Nat → Option Nat) (I : am_I) (K : Int32 → am_I → Prop) : Prop :=
  w_110 x2 x3 x4 (-1) I (fun I1 =>
    ¬ (x2 < 0 ∨ 8 ≤ Int32.toNatClampNeg x2) ∧
    w_112s x1 0 ((I1 5 (Int32.toNatClampNeg x2)) + 1) T r I1 (fun q2 I3 =>
      K q2 I3))
set_option maxRecDepth 100000 in
theorem s_109s {S : am_S} {d : Nat} {N : Nat} {T : Nat → Nat × Nat} {I : am_I} {L : am_J} {r : Nat → Nat → Option Nat} {Q : am_Q} {x1 : Nat} {x2 : Int32} {x3 : Int32} {x4 : Int32} {K : Int32 → am_I → Prop} (hw : w_109s x1 x2 x3 x4 T r I K) (hK : ∀ (q : Int32) (I1 : am_I), K q I1 → Q (some (.int q)) (N, am_ts T, I1, L, am_rs r)) : am_E S 109 (d + 3) 0 0 0 [.ref 23, .ref 1, .ref x1, .int x2, .int x3, .int x4] [] (N, am_ts T, I, L, am_rs r) Q := by
  unfold w_109s at hw
  try dsimp only at hw
  refine am_E.run [8] 2000 (show (am_E S 109 (d + 3) 0 0 8 [.ref 23, .ref 1, .ref x1, .int x2, .int x3, .int x4] [.int (-1), .int x4, .int x3, .int x2, .ref 1, .ref 23] (N, am_ts T, I, L, am_rs r) Q) from ?_)
  refine am_E.go ⟨am_kv_I N T L r _, s_110 hw (fun I1 hk => ⟨I1, rfl, rfl, hk⟩), ?_⟩
  intro v h9 hv
  obtain ⟨I1, rfl, rfl, hw⟩ := hv
  try dsimp only at hw
  refine am_E.run [23] 2000 (show (if x2 < 0 ∨ 8 ≤ Int32.toNatClampNeg x2 then False else (am_E S 109 (d + 3) 0 0 23 [.ref 23, .ref 1, .ref x1, .int x2, .int x3, .int x4] [.int ((I1 5 (Int32.toNatClampNeg x2)) + 1), .int 0, .ref x1, .ref 1, .ref 23] (N, am_ts T, I1, L, am_rs r) Q)) from ?_)
  refine am_ifn hw.1 ?_
  replace hw := hw.2
  refine am_E.go ⟨am_ki_I N T L r _, s_112s hw (fun q2 I3 hk => ⟨q2, I3, rfl, rfl, hk⟩), ?_⟩
  intro v h9 hv
  obtain ⟨q2, I3, rfl, rfl, hw⟩ := hv
  try dsimp only at hw
  refine am_E.run [] 2000 (show (True ∧ Q (some (.int q2)) (N, am_ts T, I3, L, am_rs r)) from ?_)
  exact ⟨trivial, hK _ _ hw⟩
/-- KeyKeepers.go(II)I -/
def w_117 (x0 : Int32) (x1 : Int32) (T : Nat → Nat × Nat) (r : Nat → Nat → Option Nat) (I : am_I) (K : Int32 → am_I → Prop) : Prop :=
  w_94 x0 x1 T r I (fun q1 I2 =>
    w_118 q1 I2 (fun q3 I4 =>
      K q3 I4))
set_option maxRecDepth 100000 in
theorem s_117 {S : am_S} {d : Nat} {N : Nat} {T : Nat → Nat × Nat} {I : am_I} {L : am_J} {r : Nat → Nat → Option Nat} {Q : am_Q} {x0 : Int32} {x1 : Int32} {K : Int32 → am_I → Prop} (hw : w_117 x0 x1 T r I K) (hK : ∀ (q : Int32) (I1 : am_I), K q I1 → Q (some (.int q)) (N, am_ts T, I1, L, am_rs r)) : am_E S 117 (d + 4) 0 0 0 [.ref 0, .int x0, .int x1] [] (N, am_ts T, I, L, am_rs r) Q := by
  unfold w_117 at hw
  try dsimp only at hw
  refine am_E.run [11] 2000 (show (am_E S 117 (d + 4) 0 0 11 [.ref 0, .int x0, .int x1] [.int x1, .int x0, .ref 1, .ref 29, .ref 0] (N, am_ts T, I, L, am_rs r) Q) from ?_)
  refine am_E.go ⟨am_ki_I N T L r _, s_94 hw (fun q1 I2 hk => ⟨q1, I2, rfl, rfl, hk⟩), ?_⟩
  intro v h9 hv
  obtain ⟨q1, I2, rfl, rfl, hw⟩ := hv
  try dsimp only at hw
  show (am_E S 117 (d + 4) 0 0 14 [.ref 0, .int x0, .int x1] [.int q1, .ref 0] (N, am_ts T, I2, L, am_rs r) Q)
  refine am_E.go ⟨am_ki_I N T L r _, s_118 hw (fun q3 I4 hk => ⟨q3, I4, rfl, rfl, hk⟩), ?_⟩
  intro v h9 hv
  obtain ⟨q3, I4, rfl, rfl, hw⟩ := hv
  try dsimp only at hw
  refine am_E.run [] 2000 (show (True ∧ Q (some (.int q3)) (N, am_ts T, I4, L, am_rs r)) from ?_)
  exact ⟨trivial, hK _ _ hw⟩
/-- KeyKeepers.way(I)I -/
def w_125 (x0 : Int32) (I : am_I) (K : Int32 → Prop) : Prop :=
  if (f_27 x0 I) = 0 then
    K (-1)
  else
    w_126 x0 I (fun q1 =>
      K q1)
set_option maxRecDepth 100000 in
theorem s_125 {S : am_S} {d : Nat} {N : Nat} {T : Nat → Nat × Nat} {I : am_I} {L : am_J} {r : Nat → Nat → Option Nat} {Q : am_Q} {x0 : Int32} {K : Int32 → Prop} (hw : w_125 x0 I K) (hK : ∀ (q : Int32), K q → Q (some (.int q)) (N, am_ts T, I, L, am_rs r)) : am_E S 125 (d + 3) 0 0 0 [.ref 0, .int x0] [] (N, am_ts T, I, L, am_rs r) Q := by
  unfold w_125 at hw
  try dsimp only at hw
  refine am_E.run [5] 2000 (show (am_E S 125 (d + 3) 0 0 5 [.ref 0, .int x0] [.int x0, .ref 1] (N, am_ts T, I, L, am_rs r) Q) from ?_)
  refine am_E.go ⟨fun v h9 => v = some (.int (f_27 x0 I)) ∧ h9 = (N, am_ts T, I, L, am_rs r), s_27 ⟨rfl, rfl⟩, ?_⟩
  intro v h9 hv
  obtain ⟨rfl, rfl⟩ := hv
  refine am_E.run [20] 2000 (show (if (f_27 x0 I) = 0 then (True ∧ Q (some (.int (-1))) (N, am_ts T, I, L, am_rs r)) else (am_E S 125 (d + 3) 0 0 20 [.ref 0, .int x0] [.int x0, .ref 1, .ref 55] (N, am_ts T, I, L, am_rs r) Q)) from ?_)
  by_cases hc : (f_27 x0 I) = 0
  · rw [if_pos hc] at hw ⊢
    exact ⟨trivial, hK _ hw⟩
  · rw [if_neg hc] at hw ⊢
    refine am_E.go ⟨am_ki_ N T I L r _, s_126 hw (fun q1 hk => ⟨q1, rfl, rfl, hk⟩), ?_⟩
    intro v h9 hv
    obtain ⟨q1, rfl, rfl, hw⟩ := hv
    try dsimp only at hw
    refine am_E.run [] 2000 (show (True ∧ Q (some (.int q1)) (N, am_ts T, I, L, am_rs r)) from ?_)
    exact ⟨trivial, hK _ hw⟩
/-- KeyKeepers.cut(II)I -/
def w_129 (x0 : Int32) (x1 : Int32) (I : am_I) (K : Int32 → am_I → Prop) : Prop :=
  if (f_27 x0 I) = 0 then
    K (-1) I
  else
    ¬ (x0 < 0 ∨ 8 ≤ Int32.toNatClampNeg x0) ∧
    if (I 6 (Int32.toNatClampNeg x0)) = 0 then
      K (-1) I
    else
      if (f_18 x1) = 0 then
        K (-1) I
      else
        w_130 x0 I (fun q1 I2 =>
          if x1 = 0 then
            K (f_111 q1) I2
          else
            K q1 I2)
set_option maxRecDepth 100000 in
theorem s_129 {S : am_S} {d : Nat} {N : Nat} {T : Nat → Nat × Nat} {I : am_I} {L : am_J} {r : Nat → Nat → Option Nat} {Q : am_Q} {x0 : Int32} {x1 : Int32} {K : Int32 → am_I → Prop} (hw : w_129 x0 x1 I K) (hK : ∀ (q : Int32) (I1 : am_I), K q I1 → Q (some (.int q)) (N, am_ts T, I1, L, am_rs r)) : am_E S 129 (d + 3) 0 0 0 [.ref 0, .int x0, .int x1, am_jk] [] (N, am_ts T, I, L, am_rs r) Q := by
  unfold w_129 at hw
  try dsimp only at hw
  refine am_E.run [5] 2000 (show (am_E S 129 (d + 3) 0 0 5 [.ref 0, .int x0, .int x1, am_jk] [.int x0, .ref 1] (N, am_ts T, I, L, am_rs r) Q) from ?_)
  refine am_E.go ⟨fun v h9 => v = some (.int (f_27 x0 I)) ∧ h9 = (N, am_ts T, I, L, am_rs r), s_27 ⟨rfl, rfl⟩, ?_⟩
  intro v h9 hv
  obtain ⟨rfl, rfl⟩ := hv
  refine am_E.run [24] 2000 (show (if (f_27 x0 I) = 0 then (True ∧ Q (some (.int (-1))) (N, am_ts T, I, L, am_rs r)) else (if x0 < 0 ∨ 8 ≤ Int32.toNatClampNeg x0 then False else (if (I 6 (Int32.toNatClampNeg x0)) = 0 then (True ∧ Q (some (.int (-1))) (N, am_ts T, I, L, am_rs r)) else (am_E S 129 (d + 3) 0 0 24 [.ref 0, .int x0, .int x1, am_jk] [.int x1] (N, am_ts T, I, L, am_rs r) Q)))) from ?_)
  by_cases hc : (f_27 x0 I) = 0
  · rw [if_pos hc] at hw ⊢
    exact ⟨trivial, hK _ _ hw⟩
  · rw [if_neg hc] at hw ⊢
    refine am_ifn hw.1 ?_
    replace hw := hw.2
    by_cases hc : (I 6 (Int32.toNatClampNeg x0)) = 0
    · rw [if_pos hc] at hw ⊢
      exact ⟨trivial, hK _ _ hw⟩
    · rw [if_neg hc] at hw ⊢
      refine am_E.go ⟨fun v h9 => v = some (.int (f_18 x1)) ∧ h9 = (N, am_ts T, I, L, am_rs r), s_18 ⟨rfl, rfl⟩, ?_⟩
      intro v h9 hv
      obtain ⟨rfl, rfl⟩ := hv
      refine am_E.run [41] 2000 (show (if (f_18 x1) = 0 then (True ∧ Q (some (.int (-1))) (N, am_ts T, I, L, am_rs r)) else (am_E S 129 (d + 3) 0 0 41 [.ref 0, .int x0, .int x1, am_jk] [.int x0, .ref 1, .ref 55] (N, am_ts T, I, L, am_rs r) Q)) from ?_)
      by_cases hc : (f_18 x1) = 0
      · rw [if_pos hc] at hw ⊢
        exact ⟨trivial, hK _ _ hw⟩
      · rw [if_neg hc] at hw ⊢
        refine am_E.go ⟨am_ki_I N T L r _, s_130 hw (fun q1 I2 hk => ⟨q1, I2, rfl, rfl, hk⟩), ?_⟩
        intro v h9 hv
        obtain ⟨q1, I2, rfl, rfl, hw⟩ := hv
        try dsimp only at hw
        refine am_E.run [50] 2000 (show (if x1 = 0 then (am_E S 129 (d + 3) 0 0 50 [.ref 0, .int x0, .int x1, .int q1] [.int q1] (N, am_ts T, I2, L, am_rs r) Q) else (True ∧ Q (some (.int q1)) (N, am_ts T, I2, L, am_rs r))) from ?_)
        by_cases hc : x1 = 0
        · rw [if_pos hc] at hw ⊢
          refine am_E.go ⟨fun v h9 => v = some (.int (f_111 q1)) ∧ h9 = (N, am_ts T, I2, L, am_rs r), s_111 ⟨rfl, rfl⟩, ?_⟩
          intro v h9 hv
          obtain ⟨rfl, rfl⟩ := hv
          refine am_E.run [] 2000 (show (True ∧ Q (some (.int (f_111 q1))) (N, am_ts T, I2, L, am_rs r)) from ?_)
          exact ⟨trivial, hK _ _ hw⟩
        · rw [if_neg hc] at hw ⊢
          exact ⟨trivial, hK _ _ hw⟩
def lw_139_34 : Nat → Nat → Int32 → Int32 → Int32 → (Nat → Nat × Nat) → (Nat → Nat → Option Nat) → am_I → (Int32 → am_I → Prop) → Prop
  | 0, _, _, _, _, _, _, _, _ => False
  | n + 1, v0, v4, v5, v6, T, r, I, E0 =>
    if (2 : Int32) ≤ v6 then
      E0 v6 I
    else
      w_113n v4 v5 v6 I (fun q3 I4 =>
        if q3 = 0 then
          w_109n v4 v5 v6 I4 (fun q5 I6 =>
            (am_ts T v0).1 = 9 ∧ ∃ c7, (am_rs r v0 9) = some c7 ∧
            ((am_ts T c7).1 = 20) ∧
            ¬ (((((v5 * 2) + v6) * 8) + v4) < 0 ∨ (am_ts T c7).2 ≤ Int32.toNatClampNeg ((((v5 * 2) + v6) * 8) + v4)) ∧
            lw_139_34 n v0 v4 v5 (v6 + 1) T r (am_u I6 c7 (Int32.toNatClampNeg ((((v5 * 2) + v6) * 8) + v4)) q5) E0)
        else
          (am_ts T v0).1 = 9 ∧ ∃ c8, (am_rs r v0 9) = some c8 ∧
          ((am_ts T c8).1 = 20) ∧
          ¬ (((((v5 * 2) + v6) * 8) + v4) < 0 ∨ (am_ts T c8).2 ≤ Int32.toNatClampNeg ((((v5 * 2) + v6) * 8) + v4)) ∧
          lw_139_34 n v0 v4 v5 (v6 + 1) T r (am_u I4 c8 (Int32.toNatClampNeg ((((v5 * 2) + v6) * 8) + v4)) (-1)) E0)
set_option maxRecDepth 100000 in
theorem sl_139_34 {S : am_S} {d : Nat} {Q : am_Q} {N : Nat} {T : Nat → Nat × Nat} {L : am_J} {r : Nat → Nat → Option Nat} {E0 : Int32 → am_I → Prop} : ∀ (n : Nat) {v0 : Nat} {v4 : Int32} {v5 : Int32} {v6 : Int32} {I : am_I}, lw_139_34 n v0 v4 v5 v6 T r I E0 → (∀ (o6 : Int32) (I1 : am_I), E0 o6 I1 → am_E S 139 (d + 4) 0 0 103 [.ref v0, .ref 1, .ref 23, .null, .int v4, .int v5, .int o6, am_jk, am_jk] [] (N, am_ts T, I1, L, am_rs r) Q) → am_E S 139 (d + 4) 0 0 34 [.ref v0, .ref 1, .ref 23, .null, .int v4, .int v5, .int v6, am_jk, am_jk] [] (N, am_ts T, I, L, am_rs r) Q
  | 0, _, _, _, _, _, hw, _ => hw.elim
  | n + 1, v0, v4, v5, v6, I, hw, hE0 => by
    have ih := @sl_139_34 S d Q N T L r E0 n
    unfold lw_139_34 at hw
    try dsimp only at hw
    refine am_E.run [49, 103] 2000 (show (if (2 : Int32) ≤ v6 then (am_E S 139 (d + 4) 0 0 103 [.ref v0, .ref 1, .ref 23, .null, .int v4, .int v5, .int v6, am_jk, am_jk] [] (N, am_ts T, I, L, am_rs r) Q) else (am_E S 139 (d + 4) 0 0 49 [.ref v0, .ref 1, .ref 23, .null, .int v4, .int v5, .int v6, am_jk, am_jk] [.int v6, .int v5, .int v4, .null, .ref 1, .ref 23] (N, am_ts T, I, L, am_rs r) Q)) from ?_)
    by_cases hc : (2 : Int32) ≤ v6
    · rw [if_pos hc] at hw ⊢
      exact hE0 _ _ hw
    · rw [if_neg hc] at hw ⊢
      refine am_E.go ⟨am_ki_I N T L r _, s_113n hw (fun q3 I4 hk => ⟨q3, I4, rfl, rfl, hk⟩), ?_⟩
      intro v h9 hv
      obtain ⟨q3, I4, rfl, rfl, hw⟩ := hv
      try dsimp only at hw
      refine am_E.run [72, 81] 2000 (show (if q3 = 0 then (am_E S 139 (d + 4) 0 0 72 [.ref v0, .ref 1, .ref 23, .null, .int v4, .int v5, .int v6, .int q3, am_jk] [.int v6, .int v5, .int v4, .null, .ref 1, .ref 23] (N, am_ts T, I4, L, am_rs r) Q) else (if (am_ts T v0).1 = 9 ∧ 2 < 4 then (am_E S 139 (d + 4) 0 0 81 [.ref v0, .ref 1, .ref 23, .null, .int v4, .int v5, .int v6, .int q3, .int (-1)] [am_rv (am_rs r v0 9)] (N, am_ts T, I4, L, am_rs r) Q) else False)) from ?_)
      by_cases hc : q3 = 0
      · rw [if_pos hc] at hw ⊢
        refine am_E.go ⟨am_ki_I N T L r _, s_109n hw (fun q5 I6 hk => ⟨q5, I6, rfl, rfl, hk⟩), ?_⟩
        intro v h9 hv
        obtain ⟨q5, I6, rfl, rfl, hw⟩ := hv
        try dsimp only at hw
        refine am_E.run [81] 2000 (show (if (am_ts T v0).1 = 9 ∧ 2 < 4 then (am_E S 139 (d + 4) 0 0 81 [.ref v0, .ref 1, .ref 23, .null, .int v4, .int v5, .int v6, .int q3, .int q5] [am_rv (am_rs r v0 9)] (N, am_ts T, I6, L, am_rs r) Q) else False) from ?_)
        refine am_ifp ⟨hw.1, by decide⟩ ?_
        replace hw := hw.2
        obtain ⟨c7, hx, hw⟩ := hw
        rw [hx]
        refine am_E.run [34] 2000 (show (if (am_ts T c7).1 = 20 then (if ((((v5 * 2) + v6) * 8) + v4) < 0 ∨ (am_ts T c7).2 ≤ Int32.toNatClampNeg ((((v5 * 2) + v6) * 8) + v4) then False else (am_E S 139 (d + 4) 0 0 34 [.ref v0, .ref 1, .ref 23, .null, .int v4, .int v5, .int (v6 + 1), .int q3, .int q5] [] (N, am_ts T, (am_u I6 c7 (Int32.toNatClampNeg ((((v5 * 2) + v6) * 8) + v4)) q5), L, am_rs r) Q)) else False) from ?_)
        refine am_ifp hw.1 ?_
        replace hw := hw.2
        refine am_ifn hw.1 ?_
        replace hw := hw.2
        exact am_E.junk (ih hw hE0) (am_le.cons (am_le.cons (am_le.cons (am_le.cons (am_le.cons (am_le.cons (am_le.cons (am_le.jk (am_le.jk am_le.nil)))))))))
      · rw [if_neg hc] at hw ⊢
        refine am_ifp ⟨hw.1, by decide⟩ ?_
        replace hw := hw.2
        obtain ⟨c8, hx, hw⟩ := hw
        rw [hx]
        refine am_E.run [34] 2000 (show (if (am_ts T c8).1 = 20 then (if ((((v5 * 2) + v6) * 8) + v4) < 0 ∨ (am_ts T c8).2 ≤ Int32.toNatClampNeg ((((v5 * 2) + v6) * 8) + v4) then False else (am_E S 139 (d + 4) 0 0 34 [.ref v0, .ref 1, .ref 23, .null, .int v4, .int v5, .int (v6 + 1), .int q3, .int (-1)] [] (N, am_ts T, (am_u I4 c8 (Int32.toNatClampNeg ((((v5 * 2) + v6) * 8) + v4)) (-1)), L, am_rs r) Q)) else False) from ?_)
        refine am_ifp hw.1 ?_
        replace hw := hw.2
        refine am_ifn hw.1 ?_
        replace hw := hw.2
        exact am_E.junk (ih hw hE0) (am_le.cons (am_le.cons (am_le.cons (am_le.cons (am_le.cons (am_le.cons (am_le.cons (am_le.jk (am_le.jk am_le.nil)))))))))
def lw_139_24 : Nat → Nat → Int32 → Int32 → (Nat → Nat × Nat) → (Nat → Nat → Option Nat) → am_I → (Int32 → am_I → Prop) → Prop
  | 0, _, _, _, _, _, _, _ => False
  | n + 1, v0, v4, v5, T, r, I, E0 =>
    if (6 : Int32) ≤ v5 then
      E0 v5 I
    else
      ∃ n34, lw_139_34 n34 v0 v4 v5 0 T r I (fun o9 I10 =>
        lw_139_24 n v0 v4 (v5 + 1) T r I10 E0)
set_option maxRecDepth 100000 in
theorem sl_139_24 {S : am_S} {d : Nat} {Q : am_Q} {N : Nat} {T : Nat → Nat × Nat} {L : am_J} {r : Nat → Nat → Option Nat} {E0 : Int32 → am_I → Prop} : ∀ (n : Nat) {v0 : Nat} {v4 : Int32} {v5 : Int32} {I : am_I}, lw_139_24 n v0 v4 v5 T r I E0 → (∀ (o5 : Int32) (I1 : am_I), E0 o5 I1 → am_E S 139 (d + 4) 0 0 109 [.ref v0, .ref 1, .ref 23, .null, .int v4, .int o5, am_jk, am_jk, am_jk] [] (N, am_ts T, I1, L, am_rs r) Q) → am_E S 139 (d + 4) 0 0 24 [.ref v0, .ref 1, .ref 23, .null, .int v4, .int v5, am_jk, am_jk, am_jk] [] (N, am_ts T, I, L, am_rs r) Q
  | 0, _, _, _, _, hw, _ => hw.elim
  | n + 1, v0, v4, v5, I, hw, hE0 => by
    have ih := @sl_139_24 S d Q N T L r E0 n
    unfold lw_139_24 at hw
    try dsimp only at hw
    refine am_E.run [34, 109] 2000 (show (if (6 : Int32) ≤ v5 then (am_E S 139 (d + 4) 0 0 109 [.ref v0, .ref 1, .ref 23, .null, .int v4, .int v5, am_jk, am_jk, am_jk] [] (N, am_ts T, I, L, am_rs r) Q) else (am_E S 139 (d + 4) 0 0 34 [.ref v0, .ref 1, .ref 23, .null, .int v4, .int v5, .int 0, am_jk, am_jk] [] (N, am_ts T, I, L, am_rs r) Q)) from ?_)
    by_cases hc : (6 : Int32) ≤ v5
    · rw [if_pos hc] at hw ⊢
      exact hE0 _ _ hw
    · rw [if_neg hc] at hw ⊢
      obtain ⟨n34, hw⟩ := hw
      refine sl_139_34 n34 hw (fun o9 I10 hw => ?_)
      · try dsimp only at hw
        refine am_E.run [24] 2000 (show (am_E S 139 (d + 4) 0 0 24 [.ref v0, .ref 1, .ref 23, .null, .int v4, .int (v5 + 1), .int o9, am_jk, am_jk] [] (N, am_ts T, I10, L, am_rs r) Q) from ?_)
        exact am_E.junk (ih hw hE0) (am_le.cons (am_le.cons (am_le.cons (am_le.cons (am_le.cons (am_le.cons (am_le.jk (am_le.cons (am_le.cons am_le.nil)))))))))
def lw_139_12 : Nat → Nat → Int32 → (Nat → Nat × Nat) → (Nat → Nat → Option Nat) → am_I → (Int32 → am_I → Prop) → Prop
  | 0, _, _, _, _, _, _ => False
  | n + 1, v0, v4, T, r, I, E0 =>
    if (I 1 10) ≤ v4 then
      E0 v4 I
    else
      ∃ n24, lw_139_24 n24 v0 v4 0 T r I (fun o11 I12 =>
        lw_139_12 n v0 (v4 + 1) T r I12 E0)
set_option maxRecDepth 100000 in
theorem sl_139_12 {S : am_S} {d : Nat} {Q : am_Q} {N : Nat} {T : Nat → Nat × Nat} {L : am_J} {r : Nat → Nat → Option Nat} {E0 : Int32 → am_I → Prop} : ∀ (n : Nat) {v0 : Nat} {v4 : Int32} {I : am_I}, lw_139_12 n v0 v4 T r I E0 → (∀ (o4 : Int32) (I1 : am_I), E0 o4 I1 → am_E S 139 (d + 4) 0 0 115 [.ref v0, .ref 1, .ref 23, .null, .int o4, am_jk, am_jk, am_jk, am_jk] [] (N, am_ts T, I1, L, am_rs r) Q) → am_E S 139 (d + 4) 0 0 12 [.ref v0, .ref 1, .ref 23, .null, .int v4, am_jk, am_jk, am_jk, am_jk] [] (N, am_ts T, I, L, am_rs r) Q
  | 0, _, _, _, hw, _ => hw.elim
  | n + 1, v0, v4, I, hw, hE0 => by
    have ih := @sl_139_12 S d Q N T L r E0 n
    unfold lw_139_12 at hw
    try dsimp only at hw
    refine am_E.run [24, 115] 2000 (show (if (I 1 10) ≤ v4 then (am_E S 139 (d + 4) 0 0 115 [.ref v0, .ref 1, .ref 23, .null, .int v4, am_jk, am_jk, am_jk, am_jk] [] (N, am_ts T, I, L, am_rs r) Q) else (am_E S 139 (d + 4) 0 0 24 [.ref v0, .ref 1, .ref 23, .null, .int v4, .int 0, am_jk, am_jk, am_jk] [] (N, am_ts T, I, L, am_rs r) Q)) from ?_)
    by_cases hc : (I 1 10) ≤ v4
    · rw [if_pos hc] at hw ⊢
      exact hE0 _ _ hw
    · rw [if_neg hc] at hw ⊢
      obtain ⟨n24, hw⟩ := hw
      refine sl_139_24 n24 hw (fun o11 I12 hw => ?_)
      · try dsimp only at hw
        refine am_E.run [12] 2000 (show (am_E S 139 (d + 4) 0 0 12 [.ref v0, .ref 1, .ref 23, .null, .int (v4 + 1), .int o11, am_jk, am_jk, am_jk] [] (N, am_ts T, I12, L, am_rs r) Q) from ?_)
        exact am_E.junk (ih hw hE0) (am_le.cons (am_le.cons (am_le.cons (am_le.cons (am_le.cons (am_le.jk (am_le.cons (am_le.cons (am_le.cons am_le.nil)))))))))
def lw_139_34a : Nat → Nat → Nat → Int32 → Int32 → Int32 → (Nat → Nat × Nat) → (Nat → Nat → Option Nat) → am_I → (Int32 → am_I → Prop) → Prop
  | 0, _, _, _, _, _, _, _, _, _ => False
  | n + 1, v0, v3, v4, v5, v6, T, r, I, E0 =>
    if (2 : Int32) ≤ v6 then
      E0 v6 I
    else
      w_113s v3 v4 v5 v6 T r I (fun q15 I16 =>
        if q15 = 0 then
          w_109s v3 v4 v5 v6 T r I16 (fun q17 I18 =>
            (am_ts T v0).1 = 9 ∧ ∃ c19, (am_rs r v0 9) = some c19 ∧
            ((am_ts T c19).1 = 20) ∧
            ¬ (((((v5 * 2) + v6) * 8) + v4) < 0 ∨ (am_ts T c19).2 ≤ Int32.toNatClampNeg ((((v5 * 2) + v6) * 8) + v4)) ∧
            lw_139_34a n v0 v3 v4 v5 (v6 + 1) T r (am_u I18 c19 (Int32.toNatClampNeg ((((v5 * 2) + v6) * 8) + v4)) q17) E0)
        else
          (am_ts T v0).1 = 9 ∧ ∃ c20, (am_rs r v0 9) = some c20 ∧
          ((am_ts T c20).1 = 20) ∧
          ¬ (((((v5 * 2) + v6) * 8) + v4) < 0 ∨ (am_ts T c20).2 ≤ Int32.toNatClampNeg ((((v5 * 2) + v6) * 8) + v4)) ∧
          lw_139_34a n v0 v3 v4 v5 (v6 + 1) T r (am_u I16 c20 (Int32.toNatClampNeg ((((v5 * 2) + v6) * 8) + v4)) (-1)) E0)
set_option maxRecDepth 100000 in
theorem sl_139_34a {S : am_S} {d : Nat} {Q : am_Q} {N : Nat} {T : Nat → Nat × Nat} {L : am_J} {r : Nat → Nat → Option Nat} {E0 : Int32 → am_I → Prop} : ∀ (n : Nat) {v0 : Nat} {v3 : Nat} {v4 : Int32} {v5 : Int32} {v6 : Int32} {I : am_I}, lw_139_34a n v0 v3 v4 v5 v6 T r I E0 → (∀ (o6 : Int32) (I1 : am_I), E0 o6 I1 → am_E S 139 (d + 4) 0 0 103 [.ref v0, .ref 1, .ref 23, .ref v3, .int v4, .int v5, .int o6, am_jk, am_jk] [] (N, am_ts T, I1, L, am_rs r) Q) → am_E S 139 (d + 4) 0 0 34 [.ref v0, .ref 1, .ref 23, .ref v3, .int v4, .int v5, .int v6, am_jk, am_jk] [] (N, am_ts T, I, L, am_rs r) Q
  | 0, _, _, _, _, _, _, hw, _ => hw.elim
  | n + 1, v0, v3, v4, v5, v6, I, hw, hE0 => by
    have ih := @sl_139_34a S d Q N T L r E0 n
    unfold lw_139_34a at hw
    try dsimp only at hw
    refine am_E.run [49, 103] 2000 (show (if (2 : Int32) ≤ v6 then (am_E S 139 (d + 4) 0 0 103 [.ref v0, .ref 1, .ref 23, .ref v3, .int v4, .int v5, .int v6, am_jk, am_jk] [] (N, am_ts T, I, L, am_rs r) Q) else (am_E S 139 (d + 4) 0 0 49 [.ref v0, .ref 1, .ref 23, .ref v3, .int v4, .int v5, .int v6, am_jk, am_jk] [.int v6, .int v5, .int v4, .ref v3, .ref 1, .ref 23] (N, am_ts T, I, L, am_rs r) Q)) from ?_)
    by_cases hc : (2 : Int32) ≤ v6
    · rw [if_pos hc] at hw ⊢
      exact hE0 _ _ hw
    · rw [if_neg hc] at hw ⊢
      refine am_E.go ⟨am_ki_I N T L r _, s_113s hw (fun q15 I16 hk => ⟨q15, I16, rfl, rfl, hk⟩), ?_⟩
      intro v h9 hv
      obtain ⟨q15, I16, rfl, rfl, hw⟩ := hv
      try dsimp only at hw
      refine am_E.run [72, 81] 2000 (show (if q15 = 0 then (am_E S 139 (d + 4) 0 0 72 [.ref v0, .ref 1, .ref 23, .ref v3, .int v4, .int v5, .int v6, .int q15, am_jk] [.int v6, .int v5, .int v4, .ref v3, .ref 1, .ref 23] (N, am_ts T, I16, L, am_rs r) Q) else (if (am_ts T v0).1 = 9 ∧ 2 < 4 then (am_E S 139 (d + 4) 0 0 81 [.ref v0, .ref 1, .ref 23, .ref v3, .int v4, .int v5, .int v6, .int q15, .int (-1)] [am_rv (am_rs r v0 9)] (N, am_ts T, I16, L, am_rs r) Q) else False)) from ?_)
      by_cases hc : q15 = 0
      · rw [if_pos hc] at hw ⊢
        refine am_E.go ⟨am_ki_I N T L r _, s_109s hw (fun q17 I18 hk => ⟨q17, I18, rfl, rfl, hk⟩), ?_⟩
        intro v h9 hv
        obtain ⟨q17, I18, rfl, rfl, hw⟩ := hv
        try dsimp only at hw
        refine am_E.run [81] 2000 (show (if (am_ts T v0).1 = 9 ∧ 2 < 4 then (am_E S 139 (d + 4) 0 0 81 [.ref v0, .ref 1, .ref 23, .ref v3, .int v4, .int v5, .int v6, .int q15, .int q17] [am_rv (am_rs r v0 9)] (N, am_ts T, I18, L, am_rs r) Q) else False) from ?_)
        refine am_ifp ⟨hw.1, by decide⟩ ?_
        replace hw := hw.2
        obtain ⟨c19, hx, hw⟩ := hw
        rw [hx]
        refine am_E.run [34] 2000 (show (if (am_ts T c19).1 = 20 then (if ((((v5 * 2) + v6) * 8) + v4) < 0 ∨ (am_ts T c19).2 ≤ Int32.toNatClampNeg ((((v5 * 2) + v6) * 8) + v4) then False else (am_E S 139 (d + 4) 0 0 34 [.ref v0, .ref 1, .ref 23, .ref v3, .int v4, .int v5, .int (v6 + 1), .int q15, .int q17] [] (N, am_ts T, (am_u I18 c19 (Int32.toNatClampNeg ((((v5 * 2) + v6) * 8) + v4)) q17), L, am_rs r) Q)) else False) from ?_)
        refine am_ifp hw.1 ?_
        replace hw := hw.2
        refine am_ifn hw.1 ?_
        replace hw := hw.2
        exact am_E.junk (ih hw hE0) (am_le.cons (am_le.cons (am_le.cons (am_le.cons (am_le.cons (am_le.cons (am_le.cons (am_le.jk (am_le.jk am_le.nil)))))))))
      · rw [if_neg hc] at hw ⊢
        refine am_ifp ⟨hw.1, by decide⟩ ?_
        replace hw := hw.2
        obtain ⟨c20, hx, hw⟩ := hw
        rw [hx]
        refine am_E.run [34] 2000 (show (if (am_ts T c20).1 = 20 then (if ((((v5 * 2) + v6) * 8) + v4) < 0 ∨ (am_ts T c20).2 ≤ Int32.toNatClampNeg ((((v5 * 2) + v6) * 8) + v4) then False else (am_E S 139 (d + 4) 0 0 34 [.ref v0, .ref 1, .ref 23, .ref v3, .int v4, .int v5, .int (v6 + 1), .int q15, .int (-1)] [] (N, am_ts T, (am_u I16 c20 (Int32.toNatClampNeg ((((v5 * 2) + v6) * 8) + v4)) (-1)), L, am_rs r) Q)) else False) from ?_)
        refine am_ifp hw.1 ?_
        replace hw := hw.2
        refine am_ifn hw.1 ?_
        replace hw := hw.2
        exact am_E.junk (ih hw hE0) (am_le.cons (am_le.cons (am_le.cons (am_le.cons (am_le.cons (am_le.cons (am_le.cons (am_le.jk (am_le.jk am_le.nil)))))))))
def lw_139_24a : Nat → Nat → Nat → Int32 → Int32 → (Nat → Nat × Nat) → (Nat → Nat → Option Nat) → am_I → (Int32 → am_I → Prop) → Prop
  | 0, _, _, _, _, _, _, _, _ => False
  | n + 1, v0, v3, v4, v5, T, r, I, E0 =>
    if (6 : Int32) ≤ v5 then
      E0 v5 I
    else
      ∃ n34, lw_139_34a n34 v0 v3 v4 v5 0 T r I (fun o21 I22 =>
        lw_139_24a n v0 v3 v4 (v5 + 1) T r I22 E0)
set_option maxRecDepth 100000 in
theorem sl_139_24a {S : am_S} {d : Nat} {Q : am_Q} {N : Nat} {T : Nat → Nat × Nat} {L : am_J} {r : Nat → Nat → Option Nat} {E0 : Int32 → am_I → Prop} : ∀ (n : Nat) {v0 : Nat} {v3 : Nat} {v4 : Int32} {v5 : Int32} {I : am_I}, lw_139_24a n v0 v3 v4 v5 T r I E0 → (∀ (o5 : Int32) (I1 : am_I), E0 o5 I1 → am_E S 139 (d + 4) 0 0 109 [.ref v0, .ref 1, .ref 23, .ref v3, .int v4, .int o5, am_jk, am_jk, am_jk] [] (N, am_ts T, I1, L, am_rs r) Q) → am_E S 139 (d + 4) 0 0 24 [.ref v0, .ref 1, .ref 23, .ref v3, .int v4, .int v5, am_jk, am_jk, am_jk] [] (N, am_ts T, I, L, am_rs r) Q
  | 0, _, _, _, _, _, hw, _ => hw.elim
  | n + 1, v0, v3, v4, v5, I, hw, hE0 => by
    have ih := @sl_139_24a S d Q N T L r E0 n
    unfold lw_139_24a at hw
    try dsimp only at hw
    refine am_E.run [34, 109] 2000 (show (if (6 : Int32) ≤ v5 then (am_E S 139 (d + 4) 0 0 109 [.ref v0, .ref 1, .ref 23, .ref v3, .int v4, .int v5, am_jk, am_jk, am_jk] [] (N, am_ts T, I, L, am_rs r) Q) else (am_E S 139 (d + 4) 0 0 34 [.ref v0, .ref 1, .ref 23, .ref v3, .int v4, .int v5, .int 0, am_jk, am_jk] [] (N, am_ts T, I, L, am_rs r) Q)) from ?_)
    by_cases hc : (6 : Int32) ≤ v5
    · rw [if_pos hc] at hw ⊢
      exact hE0 _ _ hw
    · rw [if_neg hc] at hw ⊢
      obtain ⟨n34, hw⟩ := hw
      refine sl_139_34a n34 hw (fun o21 I22 hw => ?_)
      · try dsimp only at hw
        refine am_E.run [24] 2000 (show (am_E S 139 (d + 4) 0 0 24 [.ref v0, .ref 1, .ref 23, .ref v3, .int v4, .int (v5 + 1), .int o21, am_jk, am_jk] [] (N, am_ts T, I22, L, am_rs r) Q) from ?_)
        exact am_E.junk (ih hw hE0) (am_le.cons (am_le.cons (am_le.cons (am_le.cons (am_le.cons (am_le.cons (am_le.jk (am_le.cons (am_le.cons am_le.nil)))))))))
def lw_139_12a : Nat → Nat → Nat → Int32 → (Nat → Nat × Nat) → (Nat → Nat → Option Nat) → am_I → (Int32 → am_I → Prop) → Prop
  | 0, _, _, _, _, _, _, _ => False
  | n + 1, v0, v3, v4, T, r, I, E0 =>
    if (I 1 10) ≤ v4 then
      E0 v4 I
    else
      ∃ n24, lw_139_24a n24 v0 v3 v4 0 T r I (fun o23 I24 =>
        lw_139_12a n v0 v3 (v4 + 1) T r I24 E0)
set_option maxRecDepth 100000 in
theorem sl_139_12a {S : am_S} {d : Nat} {Q : am_Q} {N : Nat} {T : Nat → Nat × Nat} {L : am_J} {r : Nat → Nat → Option Nat} {E0 : Int32 → am_I → Prop} : ∀ (n : Nat) {v0 : Nat} {v3 : Nat} {v4 : Int32} {I : am_I}, lw_139_12a n v0 v3 v4 T r I E0 → (∀ (o4 : Int32) (I1 : am_I), E0 o4 I1 → am_E S 139 (d + 4) 0 0 115 [.ref v0, .ref 1, .ref 23, .ref v3, .int o4, am_jk, am_jk, am_jk, am_jk] [] (N, am_ts T, I1, L, am_rs r) Q) → am_E S 139 (d + 4) 0 0 12 [.ref v0, .ref 1, .ref 23, .ref v3, .int v4, am_jk, am_jk, am_jk, am_jk] [] (N, am_ts T, I, L, am_rs r) Q
  | 0, _, _, _, _, hw, _ => hw.elim
  | n + 1, v0, v3, v4, I, hw, hE0 => by
    have ih := @sl_139_12a S d Q N T L r E0 n
    unfold lw_139_12a at hw
    try dsimp only at hw
    refine am_E.run [24, 115] 2000 (show (if (I 1 10) ≤ v4 then (am_E S 139 (d + 4) 0 0 115 [.ref v0, .ref 1, .ref 23, .ref v3, .int v4, am_jk, am_jk, am_jk, am_jk] [] (N, am_ts T, I, L, am_rs r) Q) else (am_E S 139 (d + 4) 0 0 24 [.ref v0, .ref 1, .ref 23, .ref v3, .int v4, .int 0, am_jk, am_jk, am_jk] [] (N, am_ts T, I, L, am_rs r) Q)) from ?_)
    by_cases hc : (I 1 10) ≤ v4
    · rw [if_pos hc] at hw ⊢
      exact hE0 _ _ hw
    · rw [if_neg hc] at hw ⊢
      obtain ⟨n24, hw⟩ := hw
      refine sl_139_24a n24 hw (fun o23 I24 hw => ?_)
      · try dsimp only at hw
        refine am_E.run [12] 2000 (show (am_E S 139 (d + 4) 0 0 12 [.ref v0, .ref 1, .ref 23, .ref v3, .int (v4 + 1), .int o23, am_jk, am_jk, am_jk] [] (N, am_ts T, I24, L, am_rs r) Q) from ?_)
        exact am_E.junk (ih hw hE0) (am_le.cons (am_le.cons (am_le.cons (am_le.cons (am_le.cons (am_le.jk (am_le.cons (am_le.cons (am_le.cons am_le.nil)))))))))
/-- KeyKeepers$Rota.findPrices(LKeyKeepers$Prison;LKeyKeepers$Judge;)V -/
def w_139 (a : Nat) (T : Nat → Nat × Nat) (r : Nat → Nat → Option Nat) (I : am_I) (K : am_I → Prop) : Prop :=
  w_108 (I 1 16) T r I (fun q1 =>
    (q1 = none →
      ∃ n12, lw_139_12 n12 a 0 T r I (fun o13 I14 =>
        K I14)) ∧ ∀ t2, q1 = some t2 →
      ∃ n12, lw_139_12a n12 a t2 0 T r I (fun o25 I26 =>
        K I26))
set_option maxRecDepth 100000 in
theorem s_139 {S : am_S} {d : Nat} {N : Nat} {T : Nat → Nat × Nat} {I : am_I} {L : am_J} {r : Nat → Nat → Option Nat} {Q : am_Q} {a : Nat} {K : am_I → Prop} (hw : w_139 a T r I K) (hK : ∀ (I1 : am_I), K I1 → Q (none) (N, am_ts T, I1, L, am_rs r)) : am_E S 139 (d + 4) 0 0 0 [.ref a, .ref 1, .ref 23, am_jk, am_jk, am_jk, am_jk, am_jk, am_jk] [] (N, am_ts T, I, L, am_rs r) Q := by
  unfold w_139 at hw
  try dsimp only at hw
  refine am_E.run [5] 2000 (show (am_E S 139 (d + 4) 0 0 5 [.ref a, .ref 1, .ref 23, am_jk, am_jk, am_jk, am_jk, am_jk, am_jk] [.int (I 1 16), .ref 1] (N, am_ts T, I, L, am_rs r) Q) from ?_)
  refine am_E.go ⟨am_kr_ N T I L r _, s_108 hw (fun q1 hk => ⟨q1, rfl, rfl, hk⟩), ?_⟩
  intro v h9 hv
  obtain ⟨q1, rfl, rfl, hw⟩ := hv
  try dsimp only at hw
  show (am_E S 139 (d + 4) 0 0 8 [.ref a, .ref 1, .ref 23, am_jk, am_jk, am_jk, am_jk, am_jk, am_jk] [am_rv q1] (N, am_ts T, I, L, am_rs r) Q)
  cases hx : q1 with
  | none =>
    replace hw := hw.1 hx
    refine am_E.run [12] 2000 (show (am_E S 139 (d + 4) 0 0 12 [.ref a, .ref 1, .ref 23, .null, .int 0, am_jk, am_jk, am_jk, am_jk] [] (N, am_ts T, I, L, am_rs r) Q) from ?_)
    obtain ⟨n12, hw⟩ := hw
    refine sl_139_12 n12 hw (fun o13 I14 hw => ?_)
    · try dsimp only at hw
      refine am_E.run [] 2000 (show (True ∧ Q (none) (N, am_ts T, I14, L, am_rs r)) from ?_)
      exact ⟨trivial, hK _ hw⟩
  | some t2 =>
    replace hw := hw.2 t2 hx
    refine am_E.run [12] 2000 (show (am_E S 139 (d + 4) 0 0 12 [.ref a, .ref 1, .ref 23, .ref t2, .int 0, am_jk, am_jk, am_jk, am_jk] [] (N, am_ts T, I, L, am_rs r) Q) from ?_)
    obtain ⟨n12, hw⟩ := hw
    refine sl_139_12a n12 hw (fun o25 I26 hw => ?_)
    · try dsimp only at hw
      refine am_E.run [] 2000 (show (True ∧ Q (none) (N, am_ts T, I26, L, am_rs r)) from ?_)
      exact ⟨trivial, hK _ hw⟩
def lw_145_2 : Nat → Int32 → (Nat → Nat × Nat) → (Nat → Nat → Option Nat) → am_I → (Int32 → am_I → Prop) → Prop
  | 0, _, _, _, _, _ => False
  | n + 1, v2, T, r, I, E0 =>
    if (8 : Int32) ≤ v2 then
      E0 v2 I
    else
      ¬ (v2 < 0 ∨ 8 ≤ Int32.toNatClampNeg v2) ∧
      lw_145_2 n (v2 + 1) T r (am_u I 27 (Int32.toNatClampNeg v2) 0) E0
set_option maxRecDepth 100000 in
theorem sl_145_2 {S : am_S} {d : Nat} {Q : am_Q} {N : Nat} {T : Nat → Nat × Nat} {L : am_J} {r : Nat → Nat → Option Nat} {E0 : Int32 → am_I → Prop} : ∀ (n : Nat) {v2 : Int32} {I : am_I}, lw_145_2 n v2 T r I E0 → (∀ (o2 : Int32) (I1 : am_I), E0 o2 I1 → am_E S 145 (d + 6) 0 0 21 [.ref 23, .ref 1, .int o2, am_jk, am_jk, am_jk] [] (N, am_ts T, I1, L, am_rs r) Q) → am_E S 145 (d + 6) 0 0 2 [.ref 23, .ref 1, .int v2, am_jk, am_jk, am_jk] [] (N, am_ts T, I, L, am_rs r) Q
  | 0, _, _, hw, _ => hw.elim
  | n + 1, v2, I, hw, hE0 => by
    have ih := @sl_145_2 S d Q N T L r E0 n
    unfold lw_145_2 at hw
    try dsimp only at hw
    refine am_E.run [2, 21] 2000 (show (if (8 : Int32) ≤ v2 then (am_E S 145 (d + 6) 0 0 21 [.ref 23, .ref 1, .int v2, am_jk, am_jk, am_jk] [] (N, am_ts T, I, L, am_rs r) Q) else (if v2 < 0 ∨ 8 ≤ Int32.toNatClampNeg v2 then False else (am_E S 145 (d + 6) 0 0 2 [.ref 23, .ref 1, .int (v2 + 1), am_jk, am_jk, am_jk] [] (N, am_ts T, (am_u I 27 (Int32.toNatClampNeg v2) 0), L, am_rs r) Q))) from ?_)
    by_cases hc : (8 : Int32) ≤ v2
    · rw [if_pos hc] at hw ⊢
      exact hE0 _ _ hw
    · rw [if_neg hc] at hw ⊢
      refine am_ifn hw.1 ?_
      replace hw := hw.2
      exact ih hw hE0
def lw_145_45 : Nat → Int32 → Int32 → Int32 → (Nat → Nat × Nat) → (Nat → Nat → Option Nat) → am_I → (Int32 → Int32 → am_I → Prop) → Prop
  | 0, _, _, _, _, _, _, _ => False
  | n + 1, v2, v3, v4, T, r, I, E0 =>
    if (I 1 10) ≤ v4 then
      E0 v2 v4 I
    else
      w_146 v4 (f_111 (f_21 (I 23 1) v4 0)) T r I (fun q3 I4 =>
        if q3 = (f_20 (I4 23 1) v4) then
          lw_145_45 n (v2 ||| 0) v3 (v4 + 1) T r (am_u I4 23 1 (f_21 (I4 23 1) v4 q3)) E0
        else
          lw_145_45 n (v2 ||| 1) v3 (v4 + 1) T r (am_u I4 23 1 (f_21 (I4 23 1) v4 q3)) E0)
set_option maxRecDepth 100000 in
theorem sl_145_45 {S : am_S} {d : Nat} {Q : am_Q} {N : Nat} {T : Nat → Nat × Nat} {L : am_J} {r : Nat → Nat → Option Nat} {E0 : Int32 → Int32 → am_I → Prop} : ∀ (n : Nat) {v2 : Int32} {v3 : Int32} {v4 : Int32} {I : am_I}, lw_145_45 n v2 v3 v4 T r I E0 → (∀ (o2 : Int32) (o4 : Int32) (I1 : am_I), E0 o2 o4 I1 → am_E S 145 (d + 6) 0 0 119 [.ref 23, .ref 1, .int o2, .int v3, .int o4, am_jk] [] (N, am_ts T, I1, L, am_rs r) Q) → am_E S 145 (d + 6) 0 0 45 [.ref 23, .ref 1, .int v2, .int v3, .int v4, am_jk] [] (N, am_ts T, I, L, am_rs r) Q
  | 0, _, _, _, _, hw, _ => hw.elim
  | n + 1, v2, v3, v4, I, hw, hE0 => by
    have ih := @sl_145_45 S d Q N T L r E0 n
    unfold lw_145_45 at hw
    try dsimp only at hw
    refine am_E.run [65, 119] 2000 (show (if (I 1 10) ≤ v4 then (am_E S 145 (d + 6) 0 0 119 [.ref 23, .ref 1, .int v2, .int v3, .int v4, am_jk] [] (N, am_ts T, I, L, am_rs r) Q) else (am_E S 145 (d + 6) 0 0 65 [.ref 23, .ref 1, .int v2, .int v3, .int v4, am_jk] [.int 0, .int v4, .int (I 23 1), .int v4, .ref 1, .ref 23] (N, am_ts T, I, L, am_rs r) Q)) from ?_)
    by_cases hc : (I 1 10) ≤ v4
    · rw [if_pos hc] at hw ⊢
      exact hE0 _ _ _ hw
    · rw [if_neg hc] at hw ⊢
      refine am_E.go ⟨fun v h9 => v = some (.int (f_21 (I 23 1) v4 0)) ∧ h9 = (N, am_ts T, I, L, am_rs r), s_21 ⟨rfl, rfl⟩, ?_⟩
      intro v h9 hv
      obtain ⟨rfl, rfl⟩ := hv
      show (am_E S 145 (d + 6) 0 0 68 [.ref 23, .ref 1, .int v2, .int v3, .int v4, am_jk] [.int (f_21 (I 23 1) v4 0), .int v4, .ref 1, .ref 23] (N, am_ts T, I, L, am_rs r) Q)
      refine am_E.go ⟨fun v h9 => v = some (.int (f_111 (f_21 (I 23 1) v4 0))) ∧ h9 = (N, am_ts T, I, L, am_rs r), s_111 ⟨rfl, rfl⟩, ?_⟩
      intro v h9 hv
      obtain ⟨rfl, rfl⟩ := hv
      show (am_E S 145 (d + 6) 0 0 71 [.ref 23, .ref 1, .int v2, .int v3, .int v4, am_jk] [.int (f_111 (f_21 (I 23 1) v4 0)), .int v4, .ref 1, .ref 23] (N, am_ts T, I, L, am_rs r) Q)
      refine am_E.go ⟨am_ki_I N T L r _, s_146 hw (fun q3 I4 hk => ⟨q3, I4, rfl, rfl, hk⟩), ?_⟩
      intro v h9 hv
      obtain ⟨q3, I4, rfl, rfl, hw⟩ := hv
      try dsimp only at hw
      refine am_E.run [85] 2000 (show (am_E S 145 (d + 6) 0 0 85 [.ref 23, .ref 1, .int v2, .int v3, .int v4, .int q3] [.int v4, .int (I4 23 1), .int q3, .int v2] (N, am_ts T, I4, L, am_rs r) Q) from ?_)
      refine am_E.go ⟨fun v h9 => v = some (.int (f_20 (I4 23 1) v4)) ∧ h9 = (N, am_ts T, I4, L, am_rs r), s_20 ⟨rfl, rfl⟩, ?_⟩
      intro v h9 hv
      obtain ⟨rfl, rfl⟩ := hv
      refine am_E.run [107] 2000 (show (if q3 = (f_20 (I4 23 1) v4) then (am_E S 145 (d + 6) 0 0 107 [.ref 23, .ref 1, .int (v2 ||| 0), .int v3, .int v4, .int q3] [.int q3, .int v4, .int (I4 23 1), .ref 23] (N, am_ts T, I4, L, am_rs r) Q) else (am_E S 145 (d + 6) 0 0 107 [.ref 23, .ref 1, .int (v2 ||| 1), .int v3, .int v4, .int q3] [.int q3, .int v4, .int (I4 23 1), .ref 23] (N, am_ts T, I4, L, am_rs r) Q)) from ?_)
      by_cases hc : q3 = (f_20 (I4 23 1) v4)
      · rw [if_pos hc] at hw ⊢
        refine am_E.go ⟨fun v h9 => v = some (.int (f_21 (I4 23 1) v4 q3)) ∧ h9 = (N, am_ts T, I4, L, am_rs r), s_21 ⟨rfl, rfl⟩, ?_⟩
        intro v h9 hv
        obtain ⟨rfl, rfl⟩ := hv
        refine am_E.run [45] 2000 (show (am_E S 145 (d + 6) 0 0 45 [.ref 23, .ref 1, .int (v2 ||| 0), .int v3, .int (v4 + 1), .int q3] [] (N, am_ts T, (am_u I4 23 1 (f_21 (I4 23 1) v4 q3)), L, am_rs r) Q) from ?_)
        exact am_E.junk (ih hw hE0) (am_le.cons (am_le.cons (am_le.cons (am_le.cons (am_le.cons (am_le.jk am_le.nil))))))
      · rw [if_neg hc] at hw ⊢
        refine am_E.go ⟨fun v h9 => v = some (.int (f_21 (I4 23 1) v4 q3)) ∧ h9 = (N, am_ts T, I4, L, am_rs r), s_21 ⟨rfl, rfl⟩, ?_⟩
        intro v h9 hv
        obtain ⟨rfl, rfl⟩ := hv
        refine am_E.run [45] 2000 (show (am_E S 145 (d + 6) 0 0 45 [.ref 23, .ref 1, .int (v2 ||| 1), .int v3, .int (v4 + 1), .int q3] [] (N, am_ts T, (am_u I4 23 1 (f_21 (I4 23 1) v4 q3)), L, am_rs r) Q) from ?_)
        exact am_E.junk (ih hw hE0) (am_le.cons (am_le.cons (am_le.cons (am_le.cons (am_le.cons (am_le.jk am_le.nil))))))
def lw_145_30 : Nat → Int32 → Int32 → (Nat → Nat × Nat) → (Nat → Nat → Option Nat) → am_I → (Int32 → Int32 → am_I → Prop) → Prop
  | 0, _, _, _, _, _, _ => False
  | n + 1, v2, v3, T, r, I, E0 =>
    if (50 : Int32) < v3 then
      E0 v2 v3 I
    else
      if v2 = 0 then
        E0 v2 v3 I
      else
        ∃ n45, lw_145_45 n45 0 v3 0 T r I (fun o5 o6 I7 =>
          lw_145_30 n o5 (v3 + 1) T r (am_u I7 23 2 v3) E0)
set_option maxRecDepth 100000 in
theorem sl_145_30 {S : am_S} {d : Nat} {Q : am_Q} {N : Nat} {T : Nat → Nat × Nat} {L : am_J} {r : Nat → Nat → Option Nat} {E0 : Int32 → Int32 → am_I → Prop} : ∀ (n : Nat) {v2 : Int32} {v3 : Int32} {I : am_I}, lw_145_30 n v2 v3 T r I E0 → (∀ (o2 : Int32) (o3 : Int32) (I1 : am_I), E0 o2 o3 I1 → am_E S 145 (d + 6) 0 0 130 [.ref 23, .ref 1, .int o2, .int o3, am_jk, am_jk] [] (N, am_ts T, I1, L, am_rs r) Q) → am_E S 145 (d + 6) 0 0 30 [.ref 23, .ref 1, .int v2, .int v3, am_jk, am_jk] [] (N, am_ts T, I, L, am_rs r) Q
  | 0, _, _, _, hw, _ => hw.elim
  | n + 1, v2, v3, I, hw, hE0 => by
    have ih := @sl_145_30 S d Q N T L r E0 n
    unfold lw_145_30 at hw
    try dsimp only at hw
    refine am_E.run [45, 130] 2000 (show (if (50 : Int32) < v3 then (am_E S 145 (d + 6) 0 0 130 [.ref 23, .ref 1, .int v2, .int v3, am_jk, am_jk] [] (N, am_ts T, I, L, am_rs r) Q) else (if v2 = 0 then (am_E S 145 (d + 6) 0 0 130 [.ref 23, .ref 1, .int v2, .int v3, am_jk, am_jk] [] (N, am_ts T, I, L, am_rs r) Q) else (am_E S 145 (d + 6) 0 0 45 [.ref 23, .ref 1, .int 0, .int v3, .int 0, am_jk] [] (N, am_ts T, I, L, am_rs r) Q))) from ?_)
    by_cases hc : (50 : Int32) < v3
    · rw [if_pos hc] at hw ⊢
      exact hE0 _ _ _ hw
    · rw [if_neg hc] at hw ⊢
      by_cases hc : v2 = 0
      · rw [if_pos hc] at hw ⊢
        exact hE0 _ _ _ hw
      · rw [if_neg hc] at hw ⊢
        obtain ⟨n45, hw⟩ := hw
        refine sl_145_45 n45 hw (fun o5 o6 I7 hw => ?_)
        · try dsimp only at hw
          refine am_E.run [30] 2000 (show (am_E S 145 (d + 6) 0 0 30 [.ref 23, .ref 1, .int o5, .int (v3 + 1), .int o6, am_jk] [] (N, am_ts T, (am_u I7 23 2 v3), L, am_rs r) Q) from ?_)
          exact am_E.junk (ih hw hE0) (am_le.cons (am_le.cons (am_le.cons (am_le.cons (am_le.jk (am_le.cons am_le.nil))))))
/-- KeyKeepers$Judge.comesToRest(LKeyKeepers$Prison;)Z -/
def w_145 (T : Nat → Nat × Nat) (r : Nat → Nat → Option Nat) (I : am_I) (K : Int32 → am_I → Prop) : Prop :=
  ∃ n2, lw_145_2 n2 0 T r I (fun o1 I2 =>
    ∃ n30, lw_145_30 n30 1 1 T r (am_u I2 23 1 0) (fun o8 o9 I10 =>
      if o8 = 0 then
        K 1 I10
      else
        K 0 I10))
set_option maxRecDepth 100000 in
theorem s_145 {S : am_S} {d : Nat} {N : Nat} {T : Nat → Nat × Nat} {I : am_I} {L : am_J} {r : Nat → Nat → Option Nat} {Q : am_Q} {K : Int32 → am_I → Prop} (hw : w_145 T r I K) (hK : ∀ (q : Int32) (I1 : am_I), K q I1 → Q (some (.int q)) (N, am_ts T, I1, L, am_rs r)) : am_E S 145 (d + 6) 0 0 0 [.ref 23, .ref 1, am_jk, am_jk, am_jk, am_jk] [] (N, am_ts T, I, L, am_rs r) Q := by
  unfold w_145 at hw
  try dsimp only at hw
  refine am_E.run [2] 2000 (show (am_E S 145 (d + 6) 0 0 2 [.ref 23, .ref 1, .int 0, am_jk, am_jk, am_jk] [] (N, am_ts T, I, L, am_rs r) Q) from ?_)
  obtain ⟨n2, hw⟩ := hw
  refine sl_145_2 n2 hw (fun o1 I2 hw => ?_)
  · try dsimp only at hw
    refine am_E.run [30] 2000 (show (am_E S 145 (d + 6) 0 0 30 [.ref 23, .ref 1, .int 1, .int 1, am_jk, am_jk] [] (N, am_ts T, (am_u I2 23 1 0), L, am_rs r) Q) from ?_)
    obtain ⟨n30, hw⟩ := hw
    refine sl_145_30 n30 hw (fun o8 o9 I10 hw => ?_)
    · try dsimp only at hw
      refine am_E.run [] 2000 (show (if o8 = 0 then (((1 : Int32) = 0 ∨ (1 : Int32) = 1) ∧ Q (some (.int 1)) (N, am_ts T, I10, L, am_rs r)) else (((0 : Int32) = 0 ∨ (0 : Int32) = 1) ∧ Q (some (.int 0)) (N, am_ts T, I10, L, am_rs r))) from ?_)
      by_cases hc : o8 = 0
      · rw [if_pos hc] at hw ⊢
        exact ⟨Or.inr rfl, hK _ _ hw⟩
      · rw [if_neg hc] at hw ⊢
        exact ⟨Or.inl rfl, hK _ _ hw⟩
/-- KeyKeepers.parted(II)I -/
def w_147 (x0 : Int32) (x1 : Int32) (I : am_I) (K : Int32 → am_I → Prop) : Prop :=
  if (f_13 x0 1 6) = 0 then
    K (-1) I
  else
    if (I 1 2) < x0 then
      K (-1) I
    else
      if (f_13 x1 0 x0) = 0 then
        K (-1) I
      else
        w_148 x0 I (fun q1 =>
          if x1 = 0 then
            K q1 I
          else
            if q1 = 0 then
              K (-1) I
            else
              w_150 x0 I (fun I2 =>
                ¬ ((x1 - 1) < 0 ∨ 6 ≤ Int32.toNatClampNeg (x1 - 1)) ∧
                K (I2 56 (Int32.toNatClampNeg (x1 - 1))) I2))
set_option maxRecDepth 100000 in
theorem s_147 {S : am_S} {d : Nat} {N : Nat} {T : Nat → Nat × Nat} {I : am_I} {L : am_J} {r : Nat → Nat → Option Nat} {Q : am_Q} {x0 : Int32} {x1 : Int32} {K : Int32 → am_I → Prop} (hw : w_147 x0 x1 I K) (hK : ∀ (q : Int32) (I1 : am_I), K q I1 → Q (some (.int q)) (N, am_ts T, I1, L, am_rs r)) : am_E S 147 (d + 4) 0 0 0 [.ref 0, .int x0, .int x1, am_jk] [] (N, am_ts T, I, L, am_rs r) Q := by
  unfold w_147 at hw
  try dsimp only at hw
  refine am_E.run [4] 2000 (show (am_E S 147 (d + 4) 0 0 4 [.ref 0, .int x0, .int x1, am_jk] [.int 6, .int 1, .int x0] (N, am_ts T, I, L, am_rs r) Q) from ?_)
  refine am_E.go ⟨fun v h9 => v = some (.int (f_13 x0 1 6)) ∧ h9 = (N, am_ts T, I, L, am_rs r), s_13 ⟨rfl, rfl⟩, ?_⟩
  intro v h9 hv
  obtain ⟨rfl, rfl⟩ := hv
  refine am_E.run [24] 2000 (show (if (f_13 x0 1 6) = 0 then (True ∧ Q (some (.int (-1))) (N, am_ts T, I, L, am_rs r)) else (if (I 1 2) < x0 then (True ∧ Q (some (.int (-1))) (N, am_ts T, I, L, am_rs r)) else (am_E S 147 (d + 4) 0 0 24 [.ref 0, .int x0, .int x1, am_jk] [.int x0, .int 0, .int x1] (N, am_ts T, I, L, am_rs r) Q))) from ?_)
  by_cases hc : (f_13 x0 1 6) = 0
  · rw [if_pos hc] at hw ⊢
    exact ⟨trivial, hK _ _ hw⟩
  · rw [if_neg hc] at hw ⊢
    by_cases hc : (I 1 2) < x0
    · rw [if_pos hc] at hw ⊢
      exact ⟨trivial, hK _ _ hw⟩
    · rw [if_neg hc] at hw ⊢
      refine am_E.go ⟨fun v h9 => v = some (.int (f_13 x1 0 x0)) ∧ h9 = (N, am_ts T, I, L, am_rs r), s_13 ⟨rfl, rfl⟩, ?_⟩
      intro v h9 hv
      obtain ⟨rfl, rfl⟩ := hv
      refine am_E.run [41] 2000 (show (if (f_13 x1 0 x0) = 0 then (True ∧ Q (some (.int (-1))) (N, am_ts T, I, L, am_rs r)) else (am_E S 147 (d + 4) 0 0 41 [.ref 0, .int x0, .int x1, am_jk] [.int x0, .ref 1, .ref 55] (N, am_ts T, I, L, am_rs r) Q)) from ?_)
      by_cases hc : (f_13 x1 0 x0) = 0
      · rw [if_pos hc] at hw ⊢
        exact ⟨trivial, hK _ _ hw⟩
      · rw [if_neg hc] at hw ⊢
        refine am_E.go ⟨am_ki_ N T I L r _, s_148 hw (fun q1 hk => ⟨q1, rfl, rfl, hk⟩), ?_⟩
        intro v h9 hv
        obtain ⟨q1, rfl, rfl, hw⟩ := hv
        try dsimp only at hw
        refine am_E.run [66] 2000 (show (if x1 = 0 then (True ∧ Q (some (.int q1)) (N, am_ts T, I, L, am_rs r)) else (if q1 = 0 then (True ∧ Q (some (.int (-1))) (N, am_ts T, I, L, am_rs r)) else (am_E S 147 (d + 4) 0 0 66 [.ref 0, .int x0, .int x1, .int q1] [.int x0, .ref 1, .ref 55] (N, am_ts T, I, L, am_rs r) Q))) from ?_)
        by_cases hc : x1 = 0
        · rw [if_pos hc] at hw ⊢
          exact ⟨trivial, hK _ _ hw⟩
        · rw [if_neg hc] at hw ⊢
          by_cases hc : q1 = 0
          · rw [if_pos hc] at hw ⊢
            exact ⟨trivial, hK _ _ hw⟩
          · rw [if_neg hc] at hw ⊢
            refine am_E.go ⟨am_kv_I N T L r _, s_150 hw (fun I2 hk => ⟨I2, rfl, rfl, hk⟩), ?_⟩
            intro v h9 hv
            obtain ⟨I2, rfl, rfl, hw⟩ := hv
            try dsimp only at hw
            refine am_E.run [] 2000 (show (if (x1 - 1) < 0 ∨ 6 ≤ Int32.toNatClampNeg (x1 - 1) then False else (True ∧ Q (some (.int (I2 56 (Int32.toNatClampNeg (x1 - 1))))) (N, am_ts T, I2, L, am_rs r))) from ?_)
            refine am_ifn hw.1 ?_
            replace hw := hw.2
            exact ⟨trivial, hK _ _ hw⟩
