/-- KeyKeepersModel.changeBit(III)I -/
def w_194 (x0 : Int32) (x1 : Int32) (x2 : Int32) (I : am_I) (K : Int32 → am_I → Prop) : Prop :=
  ¬ (x0 < 0 ∨ 5510 ≤ Int32.toNatClampNeg x0) ∧
  ¬ (x0 < 0 ∨ 5510 ≤ Int32.toNatClampNeg x0) ∧
  if (((I 68 (Int32.toNatClampNeg x0)) >>> (x1 &&& 31)) &&& 1) = x2 then
    ¬ (x0 < 0 ∨ 5510 ≤ Int32.toNatClampNeg x0) ∧
    K (((I 68 (Int32.toNatClampNeg x0)) >>> (x1 &&& 31)) &&& 1) (am_u (am_u I 68 (Int32.toNatClampNeg x0) ((I 68 (Int32.toNatClampNeg x0)) + 0)) 66 1 0)
  else
    if x2 = 1 then
      ¬ (x0 < 0 ∨ 5510 ≤ Int32.toNatClampNeg x0) ∧
      K (((I 68 (Int32.toNatClampNeg x0)) >>> (x1 &&& 31)) &&& 1) (am_u (am_u I 68 (Int32.toNatClampNeg x0) ((I 68 (Int32.toNatClampNeg x0)) + (1 <<< (x1 &&& 31)))) 66 1 0)
    else
      ¬ (x0 < 0 ∨ 5510 ≤ Int32.toNatClampNeg x0) ∧
      K (((I 68 (Int32.toNatClampNeg x0)) >>> (x1 &&& 31)) &&& 1) (am_u (am_u I 68 (Int32.toNatClampNeg x0) ((I 68 (Int32.toNatClampNeg x0)) + (-(1 <<< (x1 &&& 31))))) 66 1 0)
set_option maxRecDepth 100000 in
theorem s_194 {S : am_S} {d : Nat} {N : Nat} {T : Nat → Nat × Nat} {I : am_I} {L : am_J} {r : Nat → Nat → Option Nat} {Q : am_Q} {x0 : Int32} {x1 : Int32} {x2 : Int32} {K : Int32 → am_I → Prop} (hw : w_194 x0 x1 x2 I K) (hK : ∀ (q : Int32) (I1 : am_I), K q I1 → Q (some (.int q)) (N, am_ts T, I1, L, am_rs r)) : am_E S 194 (d + 0) 0 0 0 [.ref 66, .int x0, .int x1, .int x2, am_jk] [] (N, am_ts T, I, L, am_rs r) Q := by
  unfold w_194 at hw
  try dsimp only at hw
  refine am_E.run [] 2000 (show (if x0 < 0 ∨ 5510 ≤ Int32.toNatClampNeg x0 then False else (if x0 < 0 ∨ 5510 ≤ Int32.toNatClampNeg x0 then False else (if (((I 68 (Int32.toNatClampNeg x0)) >>> (x1 &&& 31)) &&& 1) = x2 then (if x0 < 0 ∨ 5510 ≤ Int32.toNatClampNeg x0 then False else (True ∧ Q (some (.int (((I 68 (Int32.toNatClampNeg x0)) >>> (x1 &&& 31)) &&& 1))) (N, am_ts T, (am_u (am_u I 68 (Int32.toNatClampNeg x0) ((I 68 (Int32.toNatClampNeg x0)) + 0)) 66 1 0), L, am_rs r))) else (if x2 = 1 then (if x0 < 0 ∨ 5510 ≤ Int32.toNatClampNeg x0 then False else (True ∧ Q (some (.int (((I 68 (Int32.toNatClampNeg x0)) >>> (x1 &&& 31)) &&& 1))) (N, am_ts T, (am_u (am_u I 68 (Int32.toNatClampNeg x0) ((I 68 (Int32.toNatClampNeg x0)) + (1 <<< (x1 &&& 31)))) 66 1 0), L, am_rs r))) else (if x0 < 0 ∨ 5510 ≤ Int32.toNatClampNeg x0 then False else (True ∧ Q (some (.int (((I 68 (Int32.toNatClampNeg x0)) >>> (x1 &&& 31)) &&& 1))) (N, am_ts T, (am_u (am_u I 68 (Int32.toNatClampNeg x0) ((I 68 (Int32.toNatClampNeg x0)) + (-(1 <<< (x1 &&& 31))))) 66 1 0), L, am_rs r))))))) from ?_)
  refine am_ifn hw.1 ?_
  replace hw := hw.2
  refine am_ifn hw.1 ?_
  replace hw := hw.2
  by_cases hc : (((I 68 (Int32.toNatClampNeg x0)) >>> (x1 &&& 31)) &&& 1) = x2
  · rw [if_pos hc] at hw ⊢
    refine am_ifn hw.1 ?_
    replace hw := hw.2
    exact ⟨trivial, hK _ _ hw⟩
  · rw [if_neg hc] at hw ⊢
    by_cases hc : x2 = 1
    · rw [if_pos hc] at hw ⊢
      refine am_ifn hw.1 ?_
      replace hw := hw.2
      exact ⟨trivial, hK _ _ hw⟩
    · rw [if_neg hc] at hw ⊢
      refine am_ifn hw.1 ?_
      replace hw := hw.2
      exact ⟨trivial, hK _ _ hw⟩
/-- KeyKeepersModel.trust(III)I -/
def w_195 (x0 : Int32) (x1 : Int32) (x2 : Int32) (I : am_I) (K : Int32 → am_I → Prop) : Prop :=
  if x0 = x1 then
    w_179 (-1) (am_u I 66 0 0) (fun q1 I2 =>
      K q1 I2)
  else
    if (f_182 (Int32.toInt64 x2) 0 1) = 0 then
      w_179 (-1) (am_u I 66 0 0) (fun q9 I10 =>
        K q9 I10)
    else
      if (f_192 x0 (am_u I 66 0 0)) = 0 then
        w_179 (-2) (am_u I 66 0 0) (fun q3 I4 =>
          K q3 I4)
      else
        if (f_192 x1 (am_u I 66 0 0)) = 0 then
          w_179 (-2) (am_u I 66 0 0) (fun q5 I6 =>
            K q5 I6)
        else
          w_194 (42 + x0) x1 x2 (am_u I 66 0 0) (fun q7 I8 =>
            K q7 I8)
set_option maxRecDepth 100000 in
theorem s_195 {S : am_S} {d : Nat} {N : Nat} {T : Nat → Nat × Nat} {I : am_I} {L : am_J} {r : Nat → Nat → Option Nat} {Q : am_Q} {x0 : Int32} {x1 : Int32} {x2 : Int32} {K : Int32 → am_I → Prop} (hw : w_195 x0 x1 x2 I K) (hK : ∀ (q : Int32) (I1 : am_I), K q I1 → Q (some (.int q)) (N, am_ts T, I1, L, am_rs r)) : am_E S 195 (d + 2) 0 0 0 [.ref 66, .int x0, .int x1, .int x2] [] (N, am_ts T, I, L, am_rs r) Q := by
  unfold w_195 at hw
  try dsimp only at hw
  refine am_E.run [14, 22] 2000 (show (if x0 = x1 then (am_E S 195 (d + 2) 0 0 22 [.ref 66, .int x0, .int x1, .int x2] [.int (-1), .ref 66] (N, am_ts T, (am_u I 66 0 0), L, am_rs r) Q) else (am_E S 195 (d + 2) 0 0 14 [.ref 66, .int x0, .int x1, .int x2] [.long 1, .long 0, .long (Int32.toInt64 x2)] (N, am_ts T, (am_u I 66 0 0), L, am_rs r) Q)) from ?_)
  by_cases hc : x0 = x1
  · rw [if_pos hc] at hw ⊢
    refine am_E.go ⟨am_ki_I N T L r _, s_179 hw (fun q1 I2 hk => ⟨q1, I2, rfl, rfl, hk⟩), ?_⟩
    intro v h9 hv
    obtain ⟨q1, I2, rfl, rfl, hw⟩ := hv
    try dsimp only at hw
    refine am_E.run [] 2000 (show (True ∧ Q (some (.int q1)) (N, am_ts T, I2, L, am_rs r)) from ?_)
    exact ⟨trivial, hK _ _ hw⟩
  · rw [if_neg hc] at hw ⊢
    refine am_E.go ⟨fun v h9 => v = some (.int (f_182 (Int32.toInt64 x2) 0 1)) ∧ h9 = (N, am_ts T, (am_u I 66 0 0), L, am_rs r), s_182 ⟨rfl, rfl⟩, ?_⟩
    intro v h9 hv
    obtain ⟨rfl, rfl⟩ := hv
    refine am_E.run [22, 28] 2000 (show (if (f_182 (Int32.toInt64 x2) 0 1) = 0 then (am_E S 195 (d + 2) 0 0 22 [.ref 66, .int x0, .int x1, .int x2] [.int (-1), .ref 66] (N, am_ts T, (am_u I 66 0 0), L, am_rs r) Q) else (am_E S 195 (d + 2) 0 0 28 [.ref 66, .int x0, .int x1, .int x2] [.int x0, .ref 66] (N, am_ts T, (am_u I 66 0 0), L, am_rs r) Q)) from ?_)
    by_cases hc : (f_182 (Int32.toInt64 x2) 0 1) = 0
    · rw [if_pos hc] at hw ⊢
      refine am_E.go ⟨am_ki_I N T L r _, s_179 hw (fun q9 I10 hk => ⟨q9, I10, rfl, rfl, hk⟩), ?_⟩
      intro v h9 hv
      obtain ⟨q9, I10, rfl, rfl, hw⟩ := hv
      try dsimp only at hw
      refine am_E.run [] 2000 (show (True ∧ Q (some (.int q9)) (N, am_ts T, I10, L, am_rs r)) from ?_)
      exact ⟨trivial, hK _ _ hw⟩
    · rw [if_neg hc] at hw ⊢
      refine am_E.go ⟨fun v h9 => v = some (.int (f_192 x0 (am_u I 66 0 0))) ∧ h9 = (N, am_ts T, (am_u I 66 0 0), L, am_rs r), s_192 ⟨rfl, rfl⟩, ?_⟩
      intro v h9 hv
      obtain ⟨rfl, rfl⟩ := hv
      refine am_E.run [36, 58] 2000 (show (if (f_192 x0 (am_u I 66 0 0)) = 0 then (am_E S 195 (d + 2) 0 0 58 [.ref 66, .int x0, .int x1, .int x2] [.int (-2), .ref 66] (N, am_ts T, (am_u I 66 0 0), L, am_rs r) Q) else (am_E S 195 (d + 2) 0 0 36 [.ref 66, .int x0, .int x1, .int x2] [.int x1, .ref 66] (N, am_ts T, (am_u I 66 0 0), L, am_rs r) Q)) from ?_)
      by_cases hc : (f_192 x0 (am_u I 66 0 0)) = 0
      · rw [if_pos hc] at hw ⊢
        refine am_E.go ⟨am_ki_I N T L r _, s_179 hw (fun q3 I4 hk => ⟨q3, I4, rfl, rfl, hk⟩), ?_⟩
        intro v h9 hv
        obtain ⟨q3, I4, rfl, rfl, hw⟩ := hv
        try dsimp only at hw
        refine am_E.run [] 2000 (show (True ∧ Q (some (.int q3)) (N, am_ts T, I4, L, am_rs r)) from ?_)
        exact ⟨trivial, hK _ _ hw⟩
      · rw [if_neg hc] at hw ⊢
        refine am_E.go ⟨fun v h9 => v = some (.int (f_192 x1 (am_u I 66 0 0))) ∧ h9 = (N, am_ts T, (am_u I 66 0 0), L, am_rs r), s_192 ⟨rfl, rfl⟩, ?_⟩
        intro v h9 hv
        obtain ⟨rfl, rfl⟩ := hv
        refine am_E.run [49, 58] 2000 (show (if (f_192 x1 (am_u I 66 0 0)) = 0 then (am_E S 195 (d + 2) 0 0 58 [.ref 66, .int x0, .int x1, .int x2] [.int (-2), .ref 66] (N, am_ts T, (am_u I 66 0 0), L, am_rs r) Q) else (am_E S 195 (d + 2) 0 0 49 [.ref 66, .int x0, .int x1, .int x2] [.int x2, .int x1, .int (42 + x0), .ref 66] (N, am_ts T, (am_u I 66 0 0), L, am_rs r) Q)) from ?_)
        by_cases hc : (f_192 x1 (am_u I 66 0 0)) = 0
        · rw [if_pos hc] at hw ⊢
          refine am_E.go ⟨am_ki_I N T L r _, s_179 hw (fun q5 I6 hk => ⟨q5, I6, rfl, rfl, hk⟩), ?_⟩
          intro v h9 hv
          obtain ⟨q5, I6, rfl, rfl, hw⟩ := hv
          try dsimp only at hw
          refine am_E.run [] 2000 (show (True ∧ Q (some (.int q5)) (N, am_ts T, I6, L, am_rs r)) from ?_)
          exact ⟨trivial, hK _ _ hw⟩
        · rw [if_neg hc] at hw ⊢
          refine am_E.go ⟨am_ki_I N T L r _, s_194 hw (fun q7 I8 hk => ⟨q7, I8, rfl, rfl, hk⟩), ?_⟩
          intro v h9 hv
          obtain ⟨q7, I8, rfl, rfl, hw⟩ := hv
          try dsimp only at hw
          refine am_E.run [] 2000 (show (True ∧ Q (some (.int q7)) (N, am_ts T, I8, L, am_rs r)) from ?_)
          exact ⟨trivial, hK _ _ hw⟩
/-- KeyKeepersModel.vote(II)I -/
def w_196 (x0 : Int32) (x1 : Int32) (I : am_I) (K : Int32 → am_I → Prop) : Prop :=
  if (f_182 (Int32.toInt64 x1) 0 1) = 0 then
    w_179 (-1) (am_u I 66 0 0) (fun q5 I6 =>
      K q5 I6)
  else
    if (f_192 x0 (am_u I 66 0 0)) = 0 then
      w_179 (-2) (am_u I 66 0 0) (fun q1 I2 =>
        K q1 I2)
    else
      w_188 (50 + x0) x1 (am_u I 66 0 0) (fun q3 I4 =>
        K q3 I4)
set_option maxRecDepth 100000 in
theorem s_196 {S : am_S} {d : Nat} {N : Nat} {T : Nat → Nat × Nat} {I : am_I} {L : am_J} {r : Nat → Nat → Option Nat} {Q : am_Q} {x0 : Int32} {x1 : Int32} {K : Int32 → am_I → Prop} (hw : w_196 x0 x1 I K) (hK : ∀ (q : Int32) (I1 : am_I), K q I1 → Q (some (.int q)) (N, am_ts T, I1, L, am_rs r)) : am_E S 196 (d + 2) 0 0 0 [.ref 66, .int x0, .int x1] [] (N, am_ts T, I, L, am_rs r) Q := by
  unfold w_196 at hw
  try dsimp only at hw
  refine am_E.run [9] 2000 (show (am_E S 196 (d + 2) 0 0 9 [.ref 66, .int x0, .int x1] [.long 1, .long 0, .long (Int32.toInt64 x1)] (N, am_ts T, (am_u I 66 0 0), L, am_rs r) Q) from ?_)
  refine am_E.go ⟨fun v h9 => v = some (.int (f_182 (Int32.toInt64 x1) 0 1)) ∧ h9 = (N, am_ts T, (am_u I 66 0 0), L, am_rs r), s_182 ⟨rfl, rfl⟩, ?_⟩
  intro v h9 hv
  obtain ⟨rfl, rfl⟩ := hv
  refine am_E.run [17, 23] 2000 (show (if (f_182 (Int32.toInt64 x1) 0 1) = 0 then (am_E S 196 (d + 2) 0 0 17 [.ref 66, .int x0, .int x1] [.int (-1), .ref 66] (N, am_ts T, (am_u I 66 0 0), L, am_rs r) Q) else (am_E S 196 (d + 2) 0 0 23 [.ref 66, .int x0, .int x1] [.int x0, .ref 66] (N, am_ts T, (am_u I 66 0 0), L, am_rs r) Q)) from ?_)
  by_cases hc : (f_182 (Int32.toInt64 x1) 0 1) = 0
  · rw [if_pos hc] at hw ⊢
    refine am_E.go ⟨am_ki_I N T L r _, s_179 hw (fun q5 I6 hk => ⟨q5, I6, rfl, rfl, hk⟩), ?_⟩
    intro v h9 hv
    obtain ⟨q5, I6, rfl, rfl, hw⟩ := hv
    try dsimp only at hw
    refine am_E.run [] 2000 (show (True ∧ Q (some (.int q5)) (N, am_ts T, I6, L, am_rs r)) from ?_)
    exact ⟨trivial, hK _ _ hw⟩
  · rw [if_neg hc] at hw ⊢
    refine am_E.go ⟨fun v h9 => v = some (.int (f_192 x0 (am_u I 66 0 0))) ∧ h9 = (N, am_ts T, (am_u I 66 0 0), L, am_rs r), s_192 ⟨rfl, rfl⟩, ?_⟩
    intro v h9 hv
    obtain ⟨rfl, rfl⟩ := hv
    refine am_E.run [35, 44] 2000 (show (if (f_192 x0 (am_u I 66 0 0)) = 0 then (am_E S 196 (d + 2) 0 0 44 [.ref 66, .int x0, .int x1] [.int (-2), .ref 66] (N, am_ts T, (am_u I 66 0 0), L, am_rs r) Q) else (am_E S 196 (d + 2) 0 0 35 [.ref 66, .int x0, .int x1] [.int x1, .int (50 + x0), .ref 66] (N, am_ts T, (am_u I 66 0 0), L, am_rs r) Q)) from ?_)
    by_cases hc : (f_192 x0 (am_u I 66 0 0)) = 0
    · rw [if_pos hc] at hw ⊢
      refine am_E.go ⟨am_ki_I N T L r _, s_179 hw (fun q1 I2 hk => ⟨q1, I2, rfl, rfl, hk⟩), ?_⟩
      intro v h9 hv
      obtain ⟨q1, I2, rfl, rfl, hw⟩ := hv
      try dsimp only at hw
      refine am_E.run [] 2000 (show (True ∧ Q (some (.int q1)) (N, am_ts T, I2, L, am_rs r)) from ?_)
      exact ⟨trivial, hK _ _ hw⟩
    · rw [if_neg hc] at hw ⊢
      refine am_E.go ⟨am_ki_I N T L r _, s_188 hw (fun q3 I4 hk => ⟨q3, I4, rfl, rfl, hk⟩), ?_⟩
      intro v h9 hv
      obtain ⟨q3, I4, rfl, rfl, hw⟩ := hv
      try dsimp only at hw
      refine am_E.run [] 2000 (show (True ∧ Q (some (.int q3)) (N, am_ts T, I4, L, am_rs r)) from ?_)
      exact ⟨trivial, hK _ _ hw⟩
def wb_197_77 (v1 : Int32) (v2 : Int32) (s0 : Int32) (I : am_I) (K : Int32 → am_I → Prop) : Prop :=
  if s0 = 0 then
    w_179 (-1) I (fun q3 I4 =>
      K q3 I4)
  else
    w_188 (5 + v1) v2 (am_u I 66 8 0) (fun q1 I2 =>
      K q1 I2)
set_option maxHeartbeats 6000000 in
set_option maxRecDepth 100000 in
theorem sb_197_77 {S : am_S} {d : Nat} {N : Nat} {T : Nat → Nat × Nat} {I : am_I} {L : am_J} {r : Nat → Nat → Option Nat} {Q : am_Q} {v1 : Int32} {v2 : Int32} {s0 : Int32} {K : Int32 → am_I → Prop} (hw : wb_197_77 v1 v2 s0 I K) (hK : ∀ (q : Int32) (I1 : am_I), K q I1 → Q (some (.int q)) (N, am_ts T, I1, L, am_rs r)) : am_E S 197 (d + 1) 0 0 77 [.ref 66, .int v1, .int v2, am_jk] [.int s0] (N, am_ts T, I, L, am_rs r) Q := by
  unfold wb_197_77 at hw
  try dsimp only at hw
  refine am_E.run [84, 98] 2000 (show (if s0 = 0 then (am_E S 197 (d + 1) 0 0 84 [.ref 66, .int v1, .int v2, .int s0] [.int (-1), .ref 66] (N, am_ts T, I, L, am_rs r) Q) else (am_E S 197 (d + 1) 0 0 98 [.ref 66, .int v1, .int v2, .int s0] [.int v2, .int (5 + v1), .ref 66] (N, am_ts T, (am_u I 66 8 0), L, am_rs r) Q)) from ?_)
  by_cases hc : s0 = 0
  · rw [if_pos hc] at hw ⊢
    refine am_E.go ⟨am_ki_I N T L r _, s_179 hw (fun q3 I4 hk => ⟨q3, I4, rfl, rfl, hk⟩), ?_⟩
    intro v h9 hv
    obtain ⟨q3, I4, rfl, rfl, hw⟩ := hv
    try dsimp only at hw
    refine am_E.run [] 2000 (show (True ∧ Q (some (.int q3)) (N, am_ts T, I4, L, am_rs r)) from ?_)
    exact ⟨trivial, hK _ _ hw⟩
  · rw [if_neg hc] at hw ⊢
    refine am_E.go ⟨am_ki_I N T L r _, s_188 hw (fun q1 I2 hk => ⟨q1, I2, rfl, rfl, hk⟩), ?_⟩
    intro v h9 hv
    obtain ⟨q1, I2, rfl, rfl, hw⟩ := hv
    try dsimp only at hw
    refine am_E.run [] 2000 (show (True ∧ Q (some (.int q1)) (N, am_ts T, I2, L, am_rs r)) from ?_)
    exact ⟨trivial, hK _ _ hw⟩
/-- KeyKeepersModel.terms(II)I -/
def w_197 (x0 : Int32) (x1 : Int32) (I : am_I) (K : Int32 → am_I → Prop) : Prop :=
  if x0 = 0 then
    wb_197_77 x0 x1 (f_182 (Int32.toInt64 x1) 0 9999) (am_u I 66 0 0) K
  else
    if x0 = 1 then
      wb_197_77 x0 x1 (f_182 (Int32.toInt64 x1) 1 6) (am_u I 66 0 0) K
    else
      if x0 = 2 then
        wb_197_77 x0 x1 (f_182 (Int32.toInt64 x1) 0 10) (am_u I 66 0 0) K
      else
        if x0 = 3 then
          if (f_182 (Int32.toInt64 x1) 0 9) = 0 then
            wb_197_77 x0 x1 0 (am_u I 66 0 0) K
          else
            wb_197_77 x0 x1 1 (am_u I 66 0 0) K
        else
          wb_197_77 x0 x1 0 (am_u I 66 0 0) K
set_option maxHeartbeats 6000000 in
set_option maxRecDepth 100000 in
theorem s_197 {S : am_S} {d : Nat} {N : Nat} {T : Nat → Nat × Nat} {I : am_I} {L : am_J} {r : Nat → Nat → Option Nat} {Q : am_Q} {x0 : Int32} {x1 : Int32} {K : Int32 → am_I → Prop} (hw : w_197 x0 x1 I K) (hK : ∀ (q : Int32) (I1 : am_I), K q I1 → Q (some (.int q)) (N, am_ts T, I1, L, am_rs r)) : am_E S 197 (d + 1) 0 0 0 [.ref 66, .int x0, .int x1, am_jk] [] (N, am_ts T, I, L, am_rs r) Q := by
  unfold w_197 at hw
  try dsimp only at hw
  refine am_E.run [15, 32, 49, 66, 77] 2000 (show (if x0 = 0 then (am_E S 197 (d + 1) 0 0 15 [.ref 66, .int x0, .int x1, am_jk] [.long 9999, .long 0, .long (Int32.toInt64 x1)] (N, am_ts T, (am_u I 66 0 0), L, am_rs r) Q) else (if x0 = 1 then (am_E S 197 (d + 1) 0 0 32 [.ref 66, .int x0, .int x1, am_jk] [.long 6, .long 1, .long (Int32.toInt64 x1)] (N, am_ts T, (am_u I 66 0 0), L, am_rs r) Q) else (if x0 = 2 then (am_E S 197 (d + 1) 0 0 49 [.ref 66, .int x0, .int x1, am_jk] [.long 10, .long 0, .long (Int32.toInt64 x1)] (N, am_ts T, (am_u I 66 0 0), L, am_rs r) Q) else (if x0 = 3 then (am_E S 197 (d + 1) 0 0 66 [.ref 66, .int x0, .int x1, am_jk] [.long 9, .long 0, .long (Int32.toInt64 x1)] (N, am_ts T, (am_u I 66 0 0), L, am_rs r) Q) else (am_E S 197 (d + 1) 0 0 77 [.ref 66, .int x0, .int x1, am_jk] [.int 0] (N, am_ts T, (am_u I 66 0 0), L, am_rs r) Q))))) from ?_)
  by_cases hc : x0 = 0
  · rw [if_pos hc] at hw ⊢
    refine am_E.go ⟨fun v h9 => v = some (.int (f_182 (Int32.toInt64 x1) 0 9999)) ∧ h9 = (N, am_ts T, (am_u I 66 0 0), L, am_rs r), s_182 ⟨rfl, rfl⟩, ?_⟩
    intro v h9 hv
    obtain ⟨rfl, rfl⟩ := hv
    refine am_E.run [77] 2000 (show (am_E S 197 (d + 1) 0 0 77 [.ref 66, .int x0, .int x1, am_jk] [.int (f_182 (Int32.toInt64 x1) 0 9999)] (N, am_ts T, (am_u I 66 0 0), L, am_rs r) Q) from ?_)
    exact sb_197_77 hw hK
  · rw [if_neg hc] at hw ⊢
    by_cases hc : x0 = 1
    · rw [if_pos hc] at hw ⊢
      refine am_E.go ⟨fun v h9 => v = some (.int (f_182 (Int32.toInt64 x1) 1 6)) ∧ h9 = (N, am_ts T, (am_u I 66 0 0), L, am_rs r), s_182 ⟨rfl, rfl⟩, ?_⟩
      intro v h9 hv
      obtain ⟨rfl, rfl⟩ := hv
      refine am_E.run [77] 2000 (show (am_E S 197 (d + 1) 0 0 77 [.ref 66, .int x0, .int x1, am_jk] [.int (f_182 (Int32.toInt64 x1) 1 6)] (N, am_ts T, (am_u I 66 0 0), L, am_rs r) Q) from ?_)
      exact sb_197_77 hw hK
    · rw [if_neg hc] at hw ⊢
      by_cases hc : x0 = 2
      · rw [if_pos hc] at hw ⊢
        refine am_E.go ⟨fun v h9 => v = some (.int (f_182 (Int32.toInt64 x1) 0 10)) ∧ h9 = (N, am_ts T, (am_u I 66 0 0), L, am_rs r), s_182 ⟨rfl, rfl⟩, ?_⟩
        intro v h9 hv
        obtain ⟨rfl, rfl⟩ := hv
        refine am_E.run [77] 2000 (show (am_E S 197 (d + 1) 0 0 77 [.ref 66, .int x0, .int x1, am_jk] [.int (f_182 (Int32.toInt64 x1) 0 10)] (N, am_ts T, (am_u I 66 0 0), L, am_rs r) Q) from ?_)
        exact sb_197_77 hw hK
      · rw [if_neg hc] at hw ⊢
        by_cases hc : x0 = 3
        · rw [if_pos hc] at hw ⊢
          refine am_E.go ⟨fun v h9 => v = some (.int (f_182 (Int32.toInt64 x1) 0 9)) ∧ h9 = (N, am_ts T, (am_u I 66 0 0), L, am_rs r), s_182 ⟨rfl, rfl⟩, ?_⟩
          intro v h9 hv
          obtain ⟨rfl, rfl⟩ := hv
          refine am_E.run [77] 2000 (show (if (f_182 (Int32.toInt64 x1) 0 9) = 0 then (am_E S 197 (d + 1) 0 0 77 [.ref 66, .int x0, .int x1, am_jk] [.int 0] (N, am_ts T, (am_u I 66 0 0), L, am_rs r) Q) else (am_E S 197 (d + 1) 0 0 77 [.ref 66, .int x0, .int x1, am_jk] [.int 1] (N, am_ts T, (am_u I 66 0 0), L, am_rs r) Q)) from ?_)
          by_cases hc : (f_182 (Int32.toInt64 x1) 0 9) = 0
          · rw [if_pos hc] at hw ⊢
            exact sb_197_77 hw hK
          · rw [if_neg hc] at hw ⊢
            exact sb_197_77 hw hK
        · rw [if_neg hc] at hw ⊢
          exact sb_197_77 hw hK
def lw_198_35 : Nat → Int32 → Int32 → Int32 → am_I → (Int32 → Int32 → am_I → Prop) → Prop
  | 0, _, _, _, _, _ => False
  | n + 1, v1, v2, v3, I, E0 =>
    if v1 ≤ v3 then
      E0 v2 v3 I
    else
      if v1 ≤ (v3 + 2) then
        lw_198_35 n v1 v2 (v3 + 3) (am_u I 66 11 ((I 66 11) + 1)) E0
      else
        ¬ (v3 < 0 ∨ 400 ≤ Int32.toNatClampNeg v3) ∧
        ¬ ((v3 + 1) < 0 ∨ 400 ≤ Int32.toNatClampNeg (v3 + 1)) ∧
        ¬ ((v3 + 2) < 0 ∨ 400 ≤ Int32.toNatClampNeg (v3 + 2)) ∧
        w_190 (I 75 (Int32.toNatClampNeg v3)) (I 75 (Int32.toNatClampNeg (v3 + 1))) (I 75 (Int32.toNatClampNeg (v3 + 2))) I (fun q1 I2 =>
          if q1 < 0 then
            lw_198_35 n v1 v2 (v3 + 3) (am_u I2 66 11 ((I2 66 11) + 1)) E0
          else
            lw_198_35 n v1 (v2 + 1) (v3 + 3) I2 E0)
set_option maxRecDepth 100000 in
theorem sl_198_35 {S : am_S} {d : Nat} {Q : am_Q} {N : Nat} {T : Nat → Nat × Nat} {L : am_J} {r : Nat → Nat → Option Nat} {E0 : Int32 → Int32 → am_I → Prop} : ∀ (n : Nat) {v1 : Int32} {v2 : Int32} {v3 : Int32} {I : am_I}, lw_198_35 n v1 v2 v3 I E0 → (∀ (o2 : Int32) (o3 : Int32) (I1 : am_I), E0 o2 o3 I1 → am_E S 198 (d + 2) 0 0 98 [.ref 66, .int v1, .int o2, .int o3] [] (N, am_ts T, I1, L, am_rs r) Q) → am_E S 198 (d + 2) 0 0 35 [.ref 66, .int v1, .int v2, .int v3] [] (N, am_ts T, I, L, am_rs r) Q
  | 0, _, _, _, _, hw, _ => hw.elim
  | n + 1, v1, v2, v3, I, hw, hE0 => by
    have ih := @sl_198_35 S d Q N T L r E0 n
    unfold lw_198_35 at hw
    try dsimp only at hw
    refine am_E.run [35, 70, 98] 2000 (show (if v1 ≤ v3 then (am_E S 198 (d + 2) 0 0 98 [.ref 66, .int v1, .int v2, .int v3] [] (N, am_ts T, I, L, am_rs r) Q) else (if v1 ≤ (v3 + 2) then (am_E S 198 (d + 2) 0 0 35 [.ref 66, .int v1, .int v2, .int (v3 + 3)] [] (N, am_ts T, (am_u I 66 11 ((I 66 11) + 1)), L, am_rs r) Q) else (if v3 < 0 ∨ 400 ≤ Int32.toNatClampNeg v3 then False else (if (v3 + 1) < 0 ∨ 400 ≤ Int32.toNatClampNeg (v3 + 1) then False else (if (v3 + 2) < 0 ∨ 400 ≤ Int32.toNatClampNeg (v3 + 2) then False else (am_E S 198 (d + 2) 0 0 70 [.ref 66, .int v1, .int v2, .int v3] [.int (I 75 (Int32.toNatClampNeg (v3 + 2))), .int (I 75 (Int32.toNatClampNeg (v3 + 1))), .int (I 75 (Int32.toNatClampNeg v3)), .ref 66] (N, am_ts T, I, L, am_rs r) Q)))))) from ?_)
    by_cases hc : v1 ≤ v3
    · rw [if_pos hc] at hw ⊢
      exact hE0 _ _ _ hw
    · rw [if_neg hc] at hw ⊢
      by_cases hc : v1 ≤ (v3 + 2)
      · rw [if_pos hc] at hw ⊢
        exact ih hw hE0
      · rw [if_neg hc] at hw ⊢
        refine am_ifn hw.1 ?_
        replace hw := hw.2
        refine am_ifn hw.1 ?_
        replace hw := hw.2
        refine am_ifn hw.1 ?_
        replace hw := hw.2
        refine am_E.go ⟨am_ki_I N T L r _, s_190 hw (fun q1 I2 hk => ⟨q1, I2, rfl, rfl, hk⟩), ?_⟩
        intro v h9 hv
        obtain ⟨q1, I2, rfl, rfl, hw⟩ := hv
        try dsimp only at hw
        refine am_E.run [35] 2000 (show (if q1 < 0 then (am_E S 198 (d + 2) 0 0 35 [.ref 66, .int v1, .int v2, .int (v3 + 3)] [] (N, am_ts T, (am_u I2 66 11 ((I2 66 11) + 1)), L, am_rs r) Q) else (am_E S 198 (d + 2) 0 0 35 [.ref 66, .int v1, .int (v2 + 1), .int (v3 + 3)] [] (N, am_ts T, I2, L, am_rs r) Q)) from ?_)
        by_cases hc : q1 < 0
        · rw [if_pos hc] at hw ⊢
          exact ih hw hE0
        · rw [if_neg hc] at hw ⊢
          exact ih hw hE0
/-- KeyKeepersModel.row()I -/
def w_198 (I : am_I) (K : Int32 → am_I → Prop) : Prop :=
  if (I 66 13) = 0 then
    w_179 (-6) (am_u (am_u I 66 0 0) 66 13 0) (fun q8 I9 =>
      K q8 I9)
  else
    ∃ n35, lw_198_35 n35 (I 66 13) 0 0 (am_u (am_u (am_u I 66 0 0) 66 13 0) 66 11 0) (fun o3 o4 I5 =>
      w_184 o3 I5 (fun q6 I7 =>
        K q6 I7))
set_option maxRecDepth 100000 in
theorem s_198 {S : am_S} {d : Nat} {N : Nat} {T : Nat → Nat × Nat} {I : am_I} {L : am_J} {r : Nat → Nat → Option Nat} {Q : am_Q} {K : Int32 → am_I → Prop} (hw : w_198 I K) (hK : ∀ (q : Int32) (I1 : am_I), K q I1 → Q (some (.int q)) (N, am_ts T, I1, L, am_rs r)) : am_E S 198 (d + 2) 0 0 0 [.ref 66, am_jk, am_jk, am_jk] [] (N, am_ts T, I, L, am_rs r) Q := by
  unfold w_198 at hw
  try dsimp only at hw
  refine am_E.run [22, 35] 2000 (show (if (I 66 13) = 0 then (am_E S 198 (d + 2) 0 0 22 [.ref 66, .int (I 66 13), am_jk, am_jk] [.int (-6), .ref 66] (N, am_ts T, (am_u (am_u I 66 0 0) 66 13 0), L, am_rs r) Q) else (am_E S 198 (d + 2) 0 0 35 [.ref 66, .int (I 66 13), .int 0, .int 0] [] (N, am_ts T, (am_u (am_u (am_u I 66 0 0) 66 13 0) 66 11 0), L, am_rs r) Q)) from ?_)
  by_cases hc : (I 66 13) = 0
  · rw [if_pos hc] at hw ⊢
    refine am_E.go ⟨am_ki_I N T L r _, s_179 hw (fun q8 I9 hk => ⟨q8, I9, rfl, rfl, hk⟩), ?_⟩
    intro v h9 hv
    obtain ⟨q8, I9, rfl, rfl, hw⟩ := hv
    try dsimp only at hw
    refine am_E.run [] 2000 (show (True ∧ Q (some (.int q8)) (N, am_ts T, I9, L, am_rs r)) from ?_)
    exact ⟨trivial, hK _ _ hw⟩
  · rw [if_neg hc] at hw ⊢
    obtain ⟨n35, hw⟩ := hw
    refine sl_198_35 n35 hw (fun o3 o4 I5 hw => ?_)
    · try dsimp only at hw
      refine am_E.run [100] 2000 (show (am_E S 198 (d + 2) 0 0 100 [.ref 66, .int (I 66 13), .int o3, .int o4] [.int o3, .ref 66] (N, am_ts T, I5, L, am_rs r) Q) from ?_)
      refine am_E.go ⟨am_ki_I N T L r _, s_184 hw (fun q6 I7 hk => ⟨q6, I7, rfl, rfl, hk⟩), ?_⟩
      intro v h9 hv
      obtain ⟨q6, I7, rfl, rfl, hw⟩ := hv
      try dsimp only at hw
      refine am_E.run [] 2000 (show (True ∧ Q (some (.int q6)) (N, am_ts T, I7, L, am_rs r)) from ?_)
      exact ⟨trivial, hK _ _ hw⟩
/-- KeyKeepersModel.rats()I -/
def w_199 (I : am_I) (K : Int32 → am_I → Prop) : Prop :=
  K (I 66 11) (am_u I 66 0 0)
set_option maxRecDepth 100000 in
theorem s_199 {S : am_S} {d : Nat} {N : Nat} {T : Nat → Nat × Nat} {I : am_I} {L : am_J} {r : Nat → Nat → Option Nat} {Q : am_Q} {K : Int32 → am_I → Prop} (hw : w_199 I K) (hK : ∀ (q : Int32) (I1 : am_I), K q I1 → Q (some (.int q)) (N, am_ts T, I1, L, am_rs r)) : am_E S 199 (d + 0) 0 0 0 [.ref 66] [] (N, am_ts T, I, L, am_rs r) Q := by
  unfold w_199 at hw
  try dsimp only at hw
  refine am_E.run [] 2000 (show (True ∧ Q (some (.int (I 66 11))) (N, am_ts T, (am_u I 66 0 0), L, am_rs r)) from ?_)
  exact ⟨trivial, hK _ _ hw⟩
def lw_201_3 : Nat → Int32 → Int32 → am_I → (Int32 → am_I → Prop) → Prop
  | 0, _, _, _, _ => False
  | n + 1, v1, v2, I, E0 =>
    if v2 < 0 then
      E0 v2 I
    else
      ¬ ((I 66 13) < 0 ∨ 400 ≤ Int32.toNatClampNeg (I 66 13)) ∧
      lw_201_3 n v1 (v2 + (-8)) (am_u (am_u I 75 (Int32.toNatClampNeg (I 66 13)) ((v1 >>> (v2 &&& 31)) &&& 255)) 66 13 ((I 66 13) + 1)) E0
set_option maxRecDepth 100000 in
theorem sl_201_3 {S : am_S} {d : Nat} {Q : am_Q} {N : Nat} {T : Nat → Nat × Nat} {L : am_J} {r : Nat → Nat → Option Nat} {E0 : Int32 → am_I → Prop} : ∀ (n : Nat) {v1 : Int32} {v2 : Int32} {I : am_I}, lw_201_3 n v1 v2 I E0 → (∀ (o2 : Int32) (I1 : am_I), E0 o2 I1 → am_E S 201 (d + 0) 0 0 39 [.ref 66, .int v1, .int o2] [] (N, am_ts T, I1, L, am_rs r) Q) → am_E S 201 (d + 0) 0 0 3 [.ref 66, .int v1, .int v2] [] (N, am_ts T, I, L, am_rs r) Q
  | 0, _, _, _, hw, _ => hw.elim
  | n + 1, v1, v2, I, hw, hE0 => by
    have ih := @sl_201_3 S d Q N T L r E0 n
    unfold lw_201_3 at hw
    try dsimp only at hw
    refine am_E.run [3, 39] 2000 (show (if v2 < 0 then (am_E S 201 (d + 0) 0 0 39 [.ref 66, .int v1, .int v2] [] (N, am_ts T, I, L, am_rs r) Q) else (if (I 66 13) < 0 ∨ 400 ≤ Int32.toNatClampNeg (I 66 13) then False else (am_E S 201 (d + 0) 0 0 3 [.ref 66, .int v1, .int (v2 + (-8))] [] (N, am_ts T, (am_u (am_u I 75 (Int32.toNatClampNeg (I 66 13)) ((v1 >>> (v2 &&& 31)) &&& 255)) 66 13 ((I 66 13) + 1)), L, am_rs r) Q))) from ?_)
    by_cases hc : v2 < 0
    · rw [if_pos hc] at hw ⊢
      exact hE0 _ _ hw
    · rw [if_neg hc] at hw ⊢
      refine am_ifn hw.1 ?_
      replace hw := hw.2
      exact ih hw hE0
/-- KeyKeepersModel.four(I)V -/
def w_201 (x0 : Int32) (I : am_I) (K : am_I → Prop) : Prop :=
  ∃ n3, lw_201_3 n3 x0 24 I (fun o1 I2 =>
    K I2)
set_option maxRecDepth 100000 in
theorem s_201 {S : am_S} {d : Nat} {N : Nat} {T : Nat → Nat × Nat} {I : am_I} {L : am_J} {r : Nat → Nat → Option Nat} {Q : am_Q} {x0 : Int32} {K : am_I → Prop} (hw : w_201 x0 I K) (hK : ∀ (I1 : am_I), K I1 → Q (none) (N, am_ts T, I1, L, am_rs r)) : am_E S 201 (d + 0) 0 0 0 [.ref 66, .int x0, am_jk] [] (N, am_ts T, I, L, am_rs r) Q := by
  unfold w_201 at hw
  try dsimp only at hw
  refine am_E.run [3] 2000 (show (am_E S 201 (d + 0) 0 0 3 [.ref 66, .int x0, .int 24] [] (N, am_ts T, I, L, am_rs r) Q) from ?_)
  obtain ⟨n3, hw⟩ := hw
  refine sl_201_3 n3 hw (fun o1 I2 hw => ?_)
  · try dsimp only at hw
    refine am_E.run [] 2000 (show (True ∧ Q (none) (N, am_ts T, I2, L, am_rs r)) from ?_)
    exact ⟨trivial, hK _ hw⟩
/-- KeyKeepersModel.end(I)I -/
def w_202 (x0 : Int32) (I : am_I) (K : Int32 → am_I → Prop) : Prop :=
  if x0 < 0 then
    K (-1) (am_u I 66 0 0)
  else
    if x0 ≤ (I 66 13) then
      K x0 (am_u (am_u I 66 0 0) 66 13 x0)
    else
      K (-1) (am_u I 66 0 0)
set_option maxRecDepth 100000 in
theorem s_202 {S : am_S} {d : Nat} {N : Nat} {T : Nat → Nat × Nat} {I : am_I} {L : am_J} {r : Nat → Nat → Option Nat} {Q : am_Q} {x0 : Int32} {K : Int32 → am_I → Prop} (hw : w_202 x0 I K) (hK : ∀ (q : Int32) (I1 : am_I), K q I1 → Q (some (.int q)) (N, am_ts T, I1, L, am_rs r)) : am_E S 202 (d + 0) 0 0 0 [.ref 66, .int x0] [] (N, am_ts T, I, L, am_rs r) Q := by
  unfold w_202 at hw
  try dsimp only at hw
  refine am_E.run [] 2000 (show (if x0 < 0 then (True ∧ Q (some (.int (-1))) (N, am_ts T, (am_u I 66 0 0), L, am_rs r)) else (if x0 ≤ (I 66 13) then (True ∧ Q (some (.int x0)) (N, am_ts T, (am_u (am_u I 66 0 0) 66 13 x0), L, am_rs r)) else (True ∧ Q (some (.int (-1))) (N, am_ts T, (am_u I 66 0 0), L, am_rs r)))) from ?_)
  by_cases hc : x0 < 0
  · rw [if_pos hc] at hw ⊢
    exact ⟨trivial, hK _ _ hw⟩
  · rw [if_neg hc] at hw ⊢
    by_cases hc : x0 ≤ (I 66 13)
    · rw [if_pos hc] at hw ⊢
      exact ⟨trivial, hK _ _ hw⟩
    · rw [if_neg hc] at hw ⊢
      exact ⟨trivial, hK _ _ hw⟩
/-- KeyKeepersModel.fault()I -/
def w_203 (I : am_I) (K : Int32 → am_I → Prop) : Prop :=
  K (I 66 18) (am_u I 66 0 0)
set_option maxRecDepth 100000 in
theorem s_203 {S : am_S} {d : Nat} {N : Nat} {T : Nat → Nat × Nat} {I : am_I} {L : am_J} {r : Nat → Nat → Option Nat} {Q : am_Q} {K : Int32 → am_I → Prop} (hw : w_203 I K) (hK : ∀ (q : Int32) (I1 : am_I), K q I1 → Q (some (.int q)) (N, am_ts T, I1, L, am_rs r)) : am_E S 203 (d + 0) 0 0 0 [.ref 66] [] (N, am_ts T, I, L, am_rs r) Q := by
  unfold w_203 at hw
  try dsimp only at hw
  refine am_E.run [] 2000 (show (True ∧ Q (some (.int (I 66 18))) (N, am_ts T, (am_u I 66 0 0), L, am_rs r)) from ?_)
  exact ⟨trivial, hK _ _ hw⟩
/-- KeyKeepersModel.isSmall(I)Z -/
def f_208 (x0 : Int32) : Int32 :=
  if x0 < 97 then
    0
  else
    if (122 : Int32) < x0 then
      0
    else
      1
set_option maxRecDepth 100000 in
theorem s_208 {S : am_S} {d : Nat} {N : Nat} {T : Nat → Nat × Nat} {I : am_I} {L : am_J} {r : Nat → Nat → Option Nat} {Q : am_Q} {x0 : Int32} (hq : Q (some (.int (f_208 x0))) (N, am_ts T, I, L, am_rs r)) : am_E S 208 (d + 0) 0 0 0 [.int x0] [] (N, am_ts T, I, L, am_rs r) Q := by
  unfold f_208 at hq
  try dsimp only at hq
  refine am_E.run [] 2000 (show (if x0 < 97 then (((0 : Int32) = 0 ∨ (0 : Int32) = 1) ∧ Q (some (.int 0)) (N, am_ts T, I, L, am_rs r)) else (if (122 : Int32) < x0 then (((0 : Int32) = 0 ∨ (0 : Int32) = 1) ∧ Q (some (.int 0)) (N, am_ts T, I, L, am_rs r)) else (((1 : Int32) = 0 ∨ (1 : Int32) = 1) ∧ Q (some (.int 1)) (N, am_ts T, I, L, am_rs r)))) from ?_)
  by_cases hc : x0 < 97
  · rw [if_pos hc] at hq ⊢
    exact ⟨Or.inl rfl, hq⟩
  · rw [if_neg hc] at hq ⊢
    by_cases hc : (122 : Int32) < x0
    · rw [if_pos hc] at hq ⊢
      exact ⟨Or.inl rfl, hq⟩
    · rw [if_neg hc] at hq ⊢
      exact ⟨Or.inr rfl, hq⟩
theorem b_208 {x0 : Int32} : (f_208 x0) = 0 ∨ (f_208 x0) = 1 := by
  unfold f_208
  (repeat' split) <;> first | exact Or.inl rfl | exact Or.inr rfl
/-- KeyKeepersModel.isDigit(I)Z -/
def f_209 (x0 : Int32) : Int32 :=
  if x0 < 48 then
    0
  else
    if (57 : Int32) < x0 then
      0
    else
      1
set_option maxRecDepth 100000 in
theorem s_209 {S : am_S} {d : Nat} {N : Nat} {T : Nat → Nat × Nat} {I : am_I} {L : am_J} {r : Nat → Nat → Option Nat} {Q : am_Q} {x0 : Int32} (hq : Q (some (.int (f_209 x0))) (N, am_ts T, I, L, am_rs r)) : am_E S 209 (d + 0) 0 0 0 [.int x0] [] (N, am_ts T, I, L, am_rs r) Q := by
  unfold f_209 at hq
  try dsimp only at hq
  refine am_E.run [] 2000 (show (if x0 < 48 then (((0 : Int32) = 0 ∨ (0 : Int32) = 1) ∧ Q (some (.int 0)) (N, am_ts T, I, L, am_rs r)) else (if (57 : Int32) < x0 then (((0 : Int32) = 0 ∨ (0 : Int32) = 1) ∧ Q (some (.int 0)) (N, am_ts T, I, L, am_rs r)) else (((1 : Int32) = 0 ∨ (1 : Int32) = 1) ∧ Q (some (.int 1)) (N, am_ts T, I, L, am_rs r)))) from ?_)
  by_cases hc : x0 < 48
  · rw [if_pos hc] at hq ⊢
    exact ⟨Or.inl rfl, hq⟩
  · rw [if_neg hc] at hq ⊢
    by_cases hc : (57 : Int32) < x0
    · rw [if_pos hc] at hq ⊢
      exact ⟨Or.inl rfl, hq⟩
    · rw [if_neg hc] at hq ⊢
      exact ⟨Or.inr rfl, hq⟩
theorem b_209 {x0 : Int32} : (f_209 x0) = 0 ∨ (f_209 x0) = 1 := by
  unfold f_209
  (repeat' split) <;> first | exact Or.inl rfl | exact Or.inr rfl
/-- KeyKeepersModel.isWord(J)Z -/
def f_211 (x0 : Int64) (I : am_I) (L : am_J) : Int32 :=
  if (I 66 16) = 1 then
    if (lg_cmp (L 66 17) x0) = 0 then
      1
    else
      0
  else
    0
set_option maxRecDepth 100000 in
theorem s_211 {S : am_S} {d : Nat} {N : Nat} {T : Nat → Nat × Nat} {I : am_I} {L : am_J} {r : Nat → Nat → Option Nat} {Q : am_Q} {x0 : Int64} (hq : Q (some (.int (f_211 x0 I L))) (N, am_ts T, I, L, am_rs r)) : am_E S 211 (d + 0) 0 0 0 [.ref 66, .long x0, am_jk] [] (N, am_ts T, I, L, am_rs r) Q := by
  unfold f_211 at hq
  try dsimp only at hq
  refine am_E.run [] 2000 (show (if (I 66 16) = 1 then (if (lg_cmp (L 66 17) x0) = 0 then (((1 : Int32) = 0 ∨ (1 : Int32) = 1) ∧ Q (some (.int 1)) (N, am_ts T, I, L, am_rs r)) else (((0 : Int32) = 0 ∨ (0 : Int32) = 1) ∧ Q (some (.int 0)) (N, am_ts T, I, L, am_rs r))) else (((0 : Int32) = 0 ∨ (0 : Int32) = 1) ∧ Q (some (.int 0)) (N, am_ts T, I, L, am_rs r))) from ?_)
  by_cases hc : (I 66 16) = 1
  · rw [if_pos hc] at hq ⊢
    by_cases hc : (lg_cmp (L 66 17) x0) = 0
    · rw [if_pos hc] at hq ⊢
      exact ⟨Or.inr rfl, hq⟩
    · rw [if_neg hc] at hq ⊢
      exact ⟨Or.inl rfl, hq⟩
  · rw [if_neg hc] at hq ⊢
    exact ⟨Or.inl rfl, hq⟩
theorem b_211 {x0 : Int64} {I : am_I} {L : am_J} : (f_211 x0 I L) = 0 ∨ (f_211 x0 I L) = 1 := by
  unfold f_211
  (repeat' split) <;> first | exact Or.inl rfl | exact Or.inr rfl
/-- KeyKeepersModel.push(II)V -/
def w_215 (x0 : Int32) (x1 : Int32) (I : am_I) (K : am_I → Prop) : Prop :=
  ¬ ((I 66 29) < 0 ∨ 400 ≤ Int32.toNatClampNeg (I 66 29)) ∧
  ¬ ((I 66 29) < 0 ∨ 400 ≤ Int32.toNatClampNeg (I 66 29)) ∧
  K (am_u (am_u (am_u I 79 (Int32.toNatClampNeg (I 66 29)) x0) 80 (Int32.toNatClampNeg (I 66 29)) x1) 66 29 ((I 66 29) + 1))
set_option maxRecDepth 100000 in
theorem s_215 {S : am_S} {d : Nat} {N : Nat} {T : Nat → Nat × Nat} {I : am_I} {L : am_J} {r : Nat → Nat → Option Nat} {Q : am_Q} {x0 : Int32} {x1 : Int32} {K : am_I → Prop} (hw : w_215 x0 x1 I K) (hK : ∀ (I1 : am_I), K I1 → Q (none) (N, am_ts T, I1, L, am_rs r)) : am_E S 215 (d + 0) 0 0 0 [.ref 66, .int x0, .int x1] [] (N, am_ts T, I, L, am_rs r) Q := by
  unfold w_215 at hw
  try dsimp only at hw
  refine am_E.run [] 2000 (show (if (I 66 29) < 0 ∨ 400 ≤ Int32.toNatClampNeg (I 66 29) then False else (if (I 66 29) < 0 ∨ 400 ≤ Int32.toNatClampNeg (I 66 29) then False else (True ∧ Q (none) (N, am_ts T, (am_u (am_u (am_u I 79 (Int32.toNatClampNeg (I 66 29)) x0) 80 (Int32.toNatClampNeg (I 66 29)) x1) 66 29 ((I 66 29) + 1)), L, am_rs r)))) from ?_)
  refine am_ifn hw.1 ?_
  replace hw := hw.2
  refine am_ifn hw.1 ?_
  replace hw := hw.2
  exact ⟨trivial, hK _ hw⟩
/-- KeyKeepersModel.isSign(I)Z -/
def f_216 (x0 : Int32) (I : am_I) (L : am_J) : Int32 :=
  if (I 66 16) = 3 then
    if (lg_cmp (L 66 17) (Int32.toInt64 x0)) = 0 then
      1
    else
      0
  else
    0
set_option maxRecDepth 100000 in
theorem s_216 {S : am_S} {d : Nat} {N : Nat} {T : Nat → Nat × Nat} {I : am_I} {L : am_J} {r : Nat → Nat → Option Nat} {Q : am_Q} {x0 : Int32} (hq : Q (some (.int (f_216 x0 I L))) (N, am_ts T, I, L, am_rs r)) : am_E S 216 (d + 0) 0 0 0 [.ref 66, .int x0] [] (N, am_ts T, I, L, am_rs r) Q := by
  unfold f_216 at hq
  try dsimp only at hq
  refine am_E.run [] 2000 (show (if (I 66 16) = 3 then (if (lg_cmp (L 66 17) (Int32.toInt64 x0)) = 0 then (((1 : Int32) = 0 ∨ (1 : Int32) = 1) ∧ Q (some (.int 1)) (N, am_ts T, I, L, am_rs r)) else (((0 : Int32) = 0 ∨ (0 : Int32) = 1) ∧ Q (some (.int 0)) (N, am_ts T, I, L, am_rs r))) else (((0 : Int32) = 0 ∨ (0 : Int32) = 1) ∧ Q (some (.int 0)) (N, am_ts T, I, L, am_rs r))) from ?_)
  by_cases hc : (I 66 16) = 3
  · rw [if_pos hc] at hq ⊢
    by_cases hc : (lg_cmp (L 66 17) (Int32.toInt64 x0)) = 0
    · rw [if_pos hc] at hq ⊢
      exact ⟨Or.inr rfl, hq⟩
    · rw [if_neg hc] at hq ⊢
      exact ⟨Or.inl rfl, hq⟩
  · rw [if_neg hc] at hq ⊢
    exact ⟨Or.inl rfl, hq⟩
theorem b_216 {x0 : Int32} {I : am_I} {L : am_J} : (f_216 x0 I L) = 0 ∨ (f_216 x0 I L) = 1 := by
  unfold f_216
  (repeat' split) <;> first | exact Or.inl rfl | exact Or.inr rfl
def lw_219_4 : Nat → Int32 → Int32 → am_I → am_J → (Int32 → Int32 → Prop) → Prop
  | 0, _, _, _, _, _ => False
  | n + 1, v1, v2, I, L, E0 =>
    if (7 : Int32) ≤ v2 then
      E0 v1 v2
    else
      ¬ (v2 < 0 ∨ 7 ≤ Int32.toNatClampNeg v2) ∧
      if (f_211 (L 82 (Int32.toNatClampNeg v2)) I L) = 0 then
        lw_219_4 n v1 (v2 + 1) I L E0
      else
        lw_219_4 n (v2 + 1) (v2 + 1) I L E0
set_option maxRecDepth 100000 in
theorem sl_219_4 {S : am_S} {d : Nat} {Q : am_Q} {N : Nat} {T : Nat → Nat × Nat} {I : am_I} {L : am_J} {r : Nat → Nat → Option Nat} {E0 : Int32 → Int32 → Prop} : ∀ (n : Nat) {v1 : Int32} {v2 : Int32}, lw_219_4 n v1 v2 I L E0 → (∀ (o1 : Int32) (o2 : Int32), E0 o1 o2 → am_E S 219 (d + 1) 0 0 37 [.ref 66, .int o1, .int o2] [] (N, am_ts T, I, L, am_rs r) Q) → am_E S 219 (d + 1) 0 0 4 [.ref 66, .int v1, .int v2] [] (N, am_ts T, I, L, am_rs r) Q
  | 0, _, _, hw, _ => hw.elim
  | n + 1, v1, v2, hw, hE0 => by
    have ih := @sl_219_4 S d Q N T I L r E0 n
    unfold lw_219_4 at hw
    try dsimp only at hw
    refine am_E.run [17, 37] 2000 (show (if (7 : Int32) ≤ v2 then (am_E S 219 (d + 1) 0 0 37 [.ref 66, .int v1, .int v2] [] (N, am_ts T, I, L, am_rs r) Q) else (if v2 < 0 ∨ 7 ≤ Int32.toNatClampNeg v2 then False else (am_E S 219 (d + 1) 0 0 17 [.ref 66, .int v1, .int v2] [.long (L 82 (Int32.toNatClampNeg v2)), .ref 66] (N, am_ts T, I, L, am_rs r) Q))) from ?_)
    by_cases hc : (7 : Int32) ≤ v2
    · rw [if_pos hc] at hw ⊢
      exact hE0 _ _ hw
    · rw [if_neg hc] at hw ⊢
      refine am_ifn hw.1 ?_
      replace hw := hw.2
      refine am_E.go ⟨fun v h9 => v = some (.int (f_211 (L 82 (Int32.toNatClampNeg v2)) I L)) ∧ h9 = (N, am_ts T, I, L, am_rs r), s_211 ⟨rfl, rfl⟩, ?_⟩
      intro v h9 hv
      obtain ⟨rfl, rfl⟩ := hv
      refine am_E.run [4] 2000 (show (if (f_211 (L 82 (Int32.toNatClampNeg v2)) I L) = 0 then (am_E S 219 (d + 1) 0 0 4 [.ref 66, .int v1, .int (v2 + 1)] [] (N, am_ts T, I, L, am_rs r) Q) else (am_E S 219 (d + 1) 0 0 4 [.ref 66, .int (v2 + 1), .int (v2 + 1)] [] (N, am_ts T, I, L, am_rs r) Q)) from ?_)
      by_cases hc : (f_211 (L 82 (Int32.toNatClampNeg v2)) I L) = 0
      · rw [if_pos hc] at hw ⊢
        exact ih hw hE0
      · rw [if_neg hc] at hw ⊢
        exact ih hw hE0
/-- KeyKeepersModel.orderPartAt()I -/
def w_219 (I : am_I) (L : am_J) (K : Int32 → Prop) : Prop :=
  ∃ n4, lw_219_4 n4 (-1) 0 I L (fun o1 o2 =>
    K o1)
set_option maxRecDepth 100000 in
theorem s_219 {S : am_S} {d : Nat} {N : Nat} {T : Nat → Nat × Nat} {I : am_I} {L : am_J} {r : Nat → Nat → Option Nat} {Q : am_Q} {K : Int32 → Prop} (hw : w_219 I L K) (hK : ∀ (q : Int32), K q → Q (some (.int q)) (N, am_ts T, I, L, am_rs r)) : am_E S 219 (d + 1) 0 0 0 [.ref 66, am_jk, am_jk] [] (N, am_ts T, I, L, am_rs r) Q := by
  unfold w_219 at hw
  try dsimp only at hw
  refine am_E.run [4] 2000 (show (am_E S 219 (d + 1) 0 0 4 [.ref 66, .int (-1), .int 0] [] (N, am_ts T, I, L, am_rs r) Q) from ?_)
  obtain ⟨n4, hw⟩ := hw
  refine sl_219_4 n4 hw (fun o1 o2 hw => ?_)
  · try dsimp only at hw
    refine am_E.run [] 2000 (show (True ∧ Q (some (.int o1)) (N, am_ts T, I, L, am_rs r)) from ?_)
    exact ⟨trivial, hK _ hw⟩
def lw_220_4 : Nat → Int32 → Int32 → am_I → am_J → (Int32 → Int32 → Prop) → Prop
  | 0, _, _, _, _, _ => False
  | n + 1, v1, v2, I, L, E0 =>
    if (10 : Int32) ≤ v2 then
      E0 v1 v2
    else
      ¬ (v2 < 0 ∨ 10 ≤ Int32.toNatClampNeg v2) ∧
      if (f_211 (L 81 (Int32.toNatClampNeg v2)) I L) = 0 then
        lw_220_4 n v1 (v2 + 1) I L E0
      else
        lw_220_4 n (v2 + 1) (v2 + 1) I L E0
set_option maxRecDepth 100000 in
theorem sl_220_4 {S : am_S} {d : Nat} {Q : am_Q} {N : Nat} {T : Nat → Nat × Nat} {I : am_I} {L : am_J} {r : Nat → Nat → Option Nat} {E0 : Int32 → Int32 → Prop} : ∀ (n : Nat) {v1 : Int32} {v2 : Int32}, lw_220_4 n v1 v2 I L E0 → (∀ (o1 : Int32) (o2 : Int32), E0 o1 o2 → am_E S 220 (d + 1) 0 0 37 [.ref 66, .int o1, .int o2] [] (N, am_ts T, I, L, am_rs r) Q) → am_E S 220 (d + 1) 0 0 4 [.ref 66, .int v1, .int v2] [] (N, am_ts T, I, L, am_rs r) Q
  | 0, _, _, hw, _ => hw.elim
  | n + 1, v1, v2, hw, hE0 => by
    have ih := @sl_220_4 S d Q N T I L r E0 n
    unfold lw_220_4 at hw
    try dsimp only at hw
    refine am_E.run [17, 37] 2000 (show (if (10 : Int32) ≤ v2 then (am_E S 220 (d + 1) 0 0 37 [.ref 66, .int v1, .int v2] [] (N, am_ts T, I, L, am_rs r) Q) else (if v2 < 0 ∨ 10 ≤ Int32.toNatClampNeg v2 then False else (am_E S 220 (d + 1) 0 0 17 [.ref 66, .int v1, .int v2] [.long (L 81 (Int32.toNatClampNeg v2)), .ref 66] (N, am_ts T, I, L, am_rs r) Q))) from ?_)
    by_cases hc : (10 : Int32) ≤ v2
    · rw [if_pos hc] at hw ⊢
      exact hE0 _ _ hw
    · rw [if_neg hc] at hw ⊢
      refine am_ifn hw.1 ?_
      replace hw := hw.2
      refine am_E.go ⟨fun v h9 => v = some (.int (f_211 (L 81 (Int32.toNatClampNeg v2)) I L)) ∧ h9 = (N, am_ts T, I, L, am_rs r), s_211 ⟨rfl, rfl⟩, ?_⟩
      intro v h9 hv
      obtain ⟨rfl, rfl⟩ := hv
      refine am_E.run [4] 2000 (show (if (f_211 (L 81 (Int32.toNatClampNeg v2)) I L) = 0 then (am_E S 220 (d + 1) 0 0 4 [.ref 66, .int v1, .int (v2 + 1)] [] (N, am_ts T, I, L, am_rs r) Q) else (am_E S 220 (d + 1) 0 0 4 [.ref 66, .int (v2 + 1), .int (v2 + 1)] [] (N, am_ts T, I, L, am_rs r) Q)) from ?_)
      by_cases hc : (f_211 (L 81 (Int32.toNatClampNeg v2)) I L) = 0
      · rw [if_pos hc] at hw ⊢
        exact ih hw hE0
      · rw [if_neg hc] at hw ⊢
        exact ih hw hE0
/-- KeyKeepersModel.partAt()I -/
def w_220 (I : am_I) (L : am_J) (K : Int32 → Prop) : Prop :=
  ∃ n4, lw_220_4 n4 (-1) 0 I L (fun o1 o2 =>
    K o1)
set_option maxRecDepth 100000 in
theorem s_220 {S : am_S} {d : Nat} {N : Nat} {T : Nat → Nat × Nat} {I : am_I} {L : am_J} {r : Nat → Nat → Option Nat} {Q : am_Q} {K : Int32 → Prop} (hw : w_220 I L K) (hK : ∀ (q : Int32), K q → Q (some (.int q)) (N, am_ts T, I, L, am_rs r)) : am_E S 220 (d + 1) 0 0 0 [.ref 66, am_jk, am_jk] [] (N, am_ts T, I, L, am_rs r) Q := by
  unfold w_220 at hw
  try dsimp only at hw
  refine am_E.run [4] 2000 (show (am_E S 220 (d + 1) 0 0 4 [.ref 66, .int (-1), .int 0] [] (N, am_ts T, I, L, am_rs r) Q) from ?_)
  obtain ⟨n4, hw⟩ := hw
  refine sl_220_4 n4 hw (fun o1 o2 hw => ?_)
  · try dsimp only at hw
    refine am_E.run [] 2000 (show (True ∧ Q (some (.int o1)) (N, am_ts T, I, L, am_rs r)) from ?_)
    exact ⟨trivial, hK _ hw⟩
/-- KeyKeepersModel.emit(II)V -/
def w_222 (x0 : Int32) (x1 : Int32) (I : am_I) (K : am_I → Prop) : Prop :=
  ¬ ((I 66 23) < 0 ∨ 400 ≤ Int32.toNatClampNeg (I 66 23)) ∧
  ¬ ((I 66 23) < 0 ∨ 400 ≤ Int32.toNatClampNeg (I 66 23)) ∧
  K (am_u (am_u (am_u I 77 (Int32.toNatClampNeg (I 66 23)) x0) 78 (Int32.toNatClampNeg (I 66 23)) x1) 66 23 ((I 66 23) + 1))
set_option maxRecDepth 100000 in
theorem s_222 {S : am_S} {d : Nat} {N : Nat} {T : Nat → Nat × Nat} {I : am_I} {L : am_J} {r : Nat → Nat → Option Nat} {Q : am_Q} {x0 : Int32} {x1 : Int32} {K : am_I → Prop} (hw : w_222 x0 x1 I K) (hK : ∀ (I1 : am_I), K I1 → Q (none) (N, am_ts T, I1, L, am_rs r)) : am_E S 222 (d + 0) 0 0 0 [.ref 66, .int x0, .int x1] [] (N, am_ts T, I, L, am_rs r) Q := by
  unfold w_222 at hw
  try dsimp only at hw
  refine am_E.run [] 2000 (show (if (I 66 23) < 0 ∨ 400 ≤ Int32.toNatClampNeg (I 66 23) then False else (if (I 66 23) < 0 ∨ 400 ≤ Int32.toNatClampNeg (I 66 23) then False else (True ∧ Q (none) (N, am_ts T, (am_u (am_u (am_u I 77 (Int32.toNatClampNeg (I 66 23)) x0) 78 (Int32.toNatClampNeg (I 66 23)) x1) 66 23 ((I 66 23) + 1)), L, am_rs r)))) from ?_)
  refine am_ifn hw.1 ?_
  replace hw := hw.2
  refine am_ifn hw.1 ?_
  replace hw := hw.2
  exact ⟨trivial, hK _ hw⟩
/-- KeyKeepersModel.binds(I)I -/
def f_225 (x0 : Int32) : Int32 :=
  if x0 < 31 then
    if x0 = 30 then
      1
    else
      if x0 = 29 then
        2
      else
        if x0 = 28 then
          3
        else
          if x0 < 25 then
            if x0 < 22 then
              5
            else
              6
          else
            4
  else
    0
set_option maxRecDepth 100000 in
theorem s_225 {S : am_S} {d : Nat} {N : Nat} {T : Nat → Nat × Nat} {I : am_I} {L : am_J} {r : Nat → Nat → Option Nat} {Q : am_Q} {x0 : Int32} (hq : Q (some (.int (f_225 x0))) (N, am_ts T, I, L, am_rs r)) : am_E S 225 (d + 0) 0 0 0 [.int x0] [] (N, am_ts T, I, L, am_rs r) Q := by
  unfold f_225 at hq
  try dsimp only at hq
  refine am_E.run [] 2000 (show (if x0 < 31 then (if x0 = 30 then (True ∧ Q (some (.int 1)) (N, am_ts T, I, L, am_rs r)) else (if x0 = 29 then (True ∧ Q (some (.int 2)) (N, am_ts T, I, L, am_rs r)) else (if x0 = 28 then (True ∧ Q (some (.int 3)) (N, am_ts T, I, L, am_rs r)) else (if x0 < 25 then (if x0 < 22 then (True ∧ Q (some (.int 5)) (N, am_ts T, I, L, am_rs r)) else (True ∧ Q (some (.int 6)) (N, am_ts T, I, L, am_rs r))) else (True ∧ Q (some (.int 4)) (N, am_ts T, I, L, am_rs r)))))) else (True ∧ Q (some (.int 0)) (N, am_ts T, I, L, am_rs r))) from ?_)
  by_cases hc : x0 < 31
  · rw [if_pos hc] at hq ⊢
    by_cases hc : x0 = 30
    · rw [if_pos hc] at hq ⊢
      exact ⟨trivial, hq⟩
    · rw [if_neg hc] at hq ⊢
      by_cases hc : x0 = 29
      · rw [if_pos hc] at hq ⊢
        exact ⟨trivial, hq⟩
      · rw [if_neg hc] at hq ⊢
        by_cases hc : x0 = 28
        · rw [if_pos hc] at hq ⊢
          exact ⟨trivial, hq⟩
        · rw [if_neg hc] at hq ⊢
          by_cases hc : x0 < 25
          · rw [if_pos hc] at hq ⊢
            by_cases hc : x0 < 22
            · rw [if_pos hc] at hq ⊢
              exact ⟨trivial, hq⟩
            · rw [if_neg hc] at hq ⊢
              exact ⟨trivial, hq⟩
          · rw [if_neg hc] at hq ⊢
            exact ⟨trivial, hq⟩
  · rw [if_neg hc] at hq ⊢
    exact ⟨trivial, hq⟩
def lw_226_0 : Nat → Int32 → am_I → (am_I → Prop) → Prop
  | 0, _, _, _ => False
  | n + 1, v1, I, E0 =>
    if (I 66 29) ≤ 0 then
      E0 I
    else
      ¬ (((I 66 29) - 1) < 0 ∨ 400 ≤ Int32.toNatClampNeg ((I 66 29) - 1)) ∧
      if (f_225 (I 79 (Int32.toNatClampNeg ((I 66 29) - 1)))) < v1 then
        E0 I
      else
        ¬ (((I 66 29) - 1) < 0 ∨ 400 ≤ Int32.toNatClampNeg ((I 66 29) - 1)) ∧
        if (I 79 (Int32.toNatClampNeg ((I 66 29) - 1))) = 29 then
          ¬ (((I 66 29) - 1) < 0 ∨ 400 ≤ Int32.toNatClampNeg ((I 66 29) - 1)) ∧
          ¬ ((I 80 (Int32.toNatClampNeg ((I 66 29) - 1))) < 0 ∨ 400 ≤ Int32.toNatClampNeg (I 80 (Int32.toNatClampNeg ((I 66 29) - 1)))) ∧
          lw_226_0 n v1 (am_u (am_u I 66 29 ((I 66 29) - 1)) 78 (Int32.toNatClampNeg (I 80 (Int32.toNatClampNeg ((I 66 29) - 1)))) (I 66 23)) E0
        else
          ¬ (((I 66 29) - 1) < 0 ∨ 400 ≤ Int32.toNatClampNeg ((I 66 29) - 1)) ∧
          if (I 79 (Int32.toNatClampNeg ((I 66 29) - 1))) = 30 then
            ¬ (((I 66 29) - 1) < 0 ∨ 400 ≤ Int32.toNatClampNeg ((I 66 29) - 1)) ∧
            ¬ ((I 80 (Int32.toNatClampNeg ((I 66 29) - 1))) < 0 ∨ 400 ≤ Int32.toNatClampNeg (I 80 (Int32.toNatClampNeg ((I 66 29) - 1)))) ∧
            lw_226_0 n v1 (am_u (am_u I 66 29 ((I 66 29) - 1)) 78 (Int32.toNatClampNeg (I 80 (Int32.toNatClampNeg ((I 66 29) - 1)))) (I 66 23)) E0
          else
            ¬ (((I 66 29) - 1) < 0 ∨ 400 ≤ Int32.toNatClampNeg ((I 66 29) - 1)) ∧
            w_222 (I 79 (Int32.toNatClampNeg ((I 66 29) - 1))) 0 (am_u I 66 29 ((I 66 29) - 1)) (fun I1 =>
              lw_226_0 n v1 I1 E0)
set_option maxRecDepth 100000 in
theorem sl_226_0 {S : am_S} {d : Nat} {Q : am_Q} {N : Nat} {T : Nat → Nat × Nat} {L : am_J} {r : Nat → Nat → Option Nat} {E0 : am_I → Prop} : ∀ (n : Nat) {v1 : Int32} {I : am_I}, lw_226_0 n v1 I E0 → (∀ (I1 : am_I), E0 I1 → am_E S 226 (d + 1) 0 0 101 [.ref 66, .int v1] [] (N, am_ts T, I1, L, am_rs r) Q) → am_E S 226 (d + 1) 0 0 0 [.ref 66, .int v1] [] (N, am_ts T, I, L, am_rs r) Q
  | 0, _, _, hw, _ => hw.elim
  | n + 1, v1, I, hw, hE0 => by
    have ih := @sl_226_0 S d Q N T L r E0 n
    unfold lw_226_0 at hw
    try dsimp only at hw
    refine am_E.run [18, 101] 2000 (show (if (I 66 29) ≤ 0 then (am_E S 226 (d + 1) 0 0 101 [.ref 66, .int v1] [] (N, am_ts T, I, L, am_rs r) Q) else (if ((I 66 29) - 1) < 0 ∨ 400 ≤ Int32.toNatClampNeg ((I 66 29) - 1) then False else (am_E S 226 (d + 1) 0 0 18 [.ref 66, .int v1] [.int (I 79 (Int32.toNatClampNeg ((I 66 29) - 1)))] (N, am_ts T, I, L, am_rs r) Q))) from ?_)
    by_cases hc : (I 66 29) ≤ 0
    · rw [if_pos hc] at hw ⊢
      exact hE0 _ hw
    · rw [if_neg hc] at hw ⊢
      refine am_ifn hw.1 ?_
      replace hw := hw.2
      refine am_E.go ⟨fun v h9 => v = some (.int (f_225 (I 79 (Int32.toNatClampNeg ((I 66 29) - 1))))) ∧ h9 = (N, am_ts T, I, L, am_rs r), s_225 ⟨rfl, rfl⟩, ?_⟩
      intro v h9 hv
      obtain ⟨rfl, rfl⟩ := hv
      refine am_E.run [0, 95, 101] 2000 (show (if (f_225 (I 79 (Int32.toNatClampNeg ((I 66 29) - 1)))) < v1 then (am_E S 226 (d + 1) 0 0 101 [.ref 66, .int v1] [] (N, am_ts T, I, L, am_rs r) Q) else (if ((I 66 29) - 1) < 0 ∨ 400 ≤ Int32.toNatClampNeg ((I 66 29) - 1) then False else (if (I 79 (Int32.toNatClampNeg ((I 66 29) - 1))) = 29 then (if ((I 66 29) - 1) < 0 ∨ 400 ≤ Int32.toNatClampNeg ((I 66 29) - 1) then False else (if (I 80 (Int32.toNatClampNeg ((I 66 29) - 1))) < 0 ∨ 400 ≤ Int32.toNatClampNeg (I 80 (Int32.toNatClampNeg ((I 66 29) - 1))) then False else (am_E S 226 (d + 1) 0 0 0 [.ref 66, .int v1] [] (N, am_ts T, (am_u (am_u I 66 29 ((I 66 29) - 1)) 78 (Int32.toNatClampNeg (I 80 (Int32.toNatClampNeg ((I 66 29) - 1)))) (I 66 23)), L, am_rs r) Q))) else (if ((I 66 29) - 1) < 0 ∨ 400 ≤ Int32.toNatClampNeg ((I 66 29) - 1) then False else (if (I 79 (Int32.toNatClampNeg ((I 66 29) - 1))) = 30 then (if ((I 66 29) - 1) < 0 ∨ 400 ≤ Int32.toNatClampNeg ((I 66 29) - 1) then False else (if (I 80 (Int32.toNatClampNeg ((I 66 29) - 1))) < 0 ∨ 400 ≤ Int32.toNatClampNeg (I 80 (Int32.toNatClampNeg ((I 66 29) - 1))) then False else (am_E S 226 (d + 1) 0 0 0 [.ref 66, .int v1] [] (N, am_ts T, (am_u (am_u I 66 29 ((I 66 29) - 1)) 78 (Int32.toNatClampNeg (I 80 (Int32.toNatClampNeg ((I 66 29) - 1)))) (I 66 23)), L, am_rs r) Q))) else (if ((I 66 29) - 1) < 0 ∨ 400 ≤ Int32.toNatClampNeg ((I 66 29) - 1) then False else (am_E S 226 (d + 1) 0 0 95 [.ref 66, .int v1] [.int 0, .int (I 79 (Int32.toNatClampNeg ((I 66 29) - 1))), .ref 66] (N, am_ts T, (am_u I 66 29 ((I 66 29) - 1)), L, am_rs r) Q))))))) from ?_)
      by_cases hc : (f_225 (I 79 (Int32.toNatClampNeg ((I 66 29) - 1)))) < v1
      · rw [if_pos hc] at hw ⊢
        exact hE0 _ hw
      · rw [if_neg hc] at hw ⊢
        refine am_ifn hw.1 ?_
        replace hw := hw.2
        by_cases hc : (I 79 (Int32.toNatClampNeg ((I 66 29) - 1))) = 29
        · rw [if_pos hc] at hw ⊢
          refine am_ifn hw.1 ?_
          replace hw := hw.2
          refine am_ifn hw.1 ?_
          replace hw := hw.2
          exact ih hw hE0
        · rw [if_neg hc] at hw ⊢
          refine am_ifn hw.1 ?_
          replace hw := hw.2
          by_cases hc : (I 79 (Int32.toNatClampNeg ((I 66 29) - 1))) = 30
          · rw [if_pos hc] at hw ⊢
            refine am_ifn hw.1 ?_
            replace hw := hw.2
            refine am_ifn hw.1 ?_
            replace hw := hw.2
            exact ih hw hE0
          · rw [if_neg hc] at hw ⊢
            refine am_ifn hw.1 ?_
            replace hw := hw.2
            refine am_E.go ⟨am_kv_I N T L r _, s_222 hw (fun I1 hk => ⟨I1, rfl, rfl, hk⟩), ?_⟩
            intro v h9 hv
            obtain ⟨I1, rfl, rfl, hw⟩ := hv
            try dsimp only at hw
            refine am_E.run [0] 2000 (show (am_E S 226 (d + 1) 0 0 0 [.ref 66, .int v1] [] (N, am_ts T, I1, L, am_rs r) Q) from ?_)
            exact ih hw hE0
/-- KeyKeepersModel.settle(I)V -/
def w_226 (x0 : Int32) (I : am_I) (K : am_I → Prop) : Prop :=
  ∃ n0, lw_226_0 n0 x0 I (fun I2 =>
    K I2)
set_option maxRecDepth 100000 in
theorem s_226 {S : am_S} {d : Nat} {N : Nat} {T : Nat → Nat × Nat} {I : am_I} {L : am_J} {r : Nat → Nat → Option Nat} {Q : am_Q} {x0 : Int32} {K : am_I → Prop} (hw : w_226 x0 I K) (hK : ∀ (I1 : am_I), K I1 → Q (none) (N, am_ts T, I1, L, am_rs r)) : am_E S 226 (d + 1) 0 0 0 [.ref 66, .int x0] [] (N, am_ts T, I, L, am_rs r) Q := by
  unfold w_226 at hw
  try dsimp only at hw
  show (am_E S 226 (d + 1) 0 0 0 [.ref 66, .int x0] [] (N, am_ts T, I, L, am_rs r) Q)
  obtain ⟨n0, hw⟩ := hw
  refine sl_226_0 n0 hw (fun I2 hw => ?_)
  · try dsimp only at hw
    refine am_E.run [] 2000 (show (True ∧ Q (none) (N, am_ts T, I2, L, am_rs r)) from ?_)
    exact ⟨trivial, hK _ hw⟩
