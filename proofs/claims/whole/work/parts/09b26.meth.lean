/-- KeyKeepersModel.goNow(II)I -/
def w_252 (x0 : Int32) (x1 : Int32) (I : am_I) (K : Int32 → am_I → Prop) : Prop :=
  if (f_192 x0 I) = 0 then
    K (-2) I
  else
    if (f_187 x1 I) = 0 then
      K (-2) I
    else
      w_253 x0 x1 I (fun q1 =>
        if q1 = 0 then
          K (-3) I
        else
          w_255 0 I (fun I2 =>
            ¬ ((10 + x0) < 0 ∨ 5510 ≤ Int32.toNatClampNeg (10 + x0)) ∧
            w_257 (I2 68 (Int32.toNatClampNeg (10 + x0))) x1 I2 (fun q3 =>
              ¬ ((10 + x0) < 0 ∨ 5510 ≤ Int32.toNatClampNeg (10 + x0)) ∧
              ¬ ((10 + x0) < 0 ∨ 5510 ≤ Int32.toNatClampNeg (10 + x0)) ∧
              K ((am_u I2 68 (Int32.toNatClampNeg (10 + x0)) q3) 68 (Int32.toNatClampNeg (10 + x0))) (am_u I2 68 (Int32.toNatClampNeg (10 + x0)) q3))))
set_option maxRecDepth 100000 in
theorem s_252 {S : am_S} {d : Nat} {N : Nat} {T : Nat → Nat × Nat} {I : am_I} {L : am_J} {r : Nat → Nat → Option Nat} {Q : am_Q} {x0 : Int32} {x1 : Int32} {K : Int32 → am_I → Prop} (hw : w_252 x0 x1 I K) (hK : ∀ (q : Int32) (I1 : am_I), K q I1 → Q (some (.int q)) (N, am_ts T, I1, L, am_rs r)) : am_E S 252 (d + 4) 0 0 0 [.ref 66, .int x0, .int x1] [] (N, am_ts T, I, L, am_rs r) Q := by
  unfold w_252 at hw
  try dsimp only at hw
  refine am_E.run [2] 2000 (show (am_E S 252 (d + 4) 0 0 2 [.ref 66, .int x0, .int x1] [.int x0, .ref 66] (N, am_ts T, I, L, am_rs r) Q) from ?_)
  refine am_E.go ⟨fun v h9 => v = some (.int (f_192 x0 I)) ∧ h9 = (N, am_ts T, I, L, am_rs r), s_192 ⟨rfl, rfl⟩, ?_⟩
  intro v h9 hv
  obtain ⟨rfl, rfl⟩ := hv
  refine am_E.run [10] 2000 (show (if (f_192 x0 I) = 0 then (True ∧ Q (some (.int (-2))) (N, am_ts T, I, L, am_rs r)) else (am_E S 252 (d + 4) 0 0 10 [.ref 66, .int x0, .int x1] [.int x1, .ref 66] (N, am_ts T, I, L, am_rs r) Q)) from ?_)
  by_cases hc : (f_192 x0 I) = 0
  · rw [if_pos hc] at hw ⊢
    exact ⟨trivial, hK _ _ hw⟩
  · rw [if_neg hc] at hw ⊢
    refine am_E.go ⟨fun v h9 => v = some (.int (f_187 x1 I)) ∧ h9 = (N, am_ts T, I, L, am_rs r), s_187 ⟨rfl, rfl⟩, ?_⟩
    intro v h9 hv
    obtain ⟨rfl, rfl⟩ := hv
    refine am_E.run [22] 2000 (show (if (f_187 x1 I) = 0 then (True ∧ Q (some (.int (-2))) (N, am_ts T, I, L, am_rs r)) else (am_E S 252 (d + 4) 0 0 22 [.ref 66, .int x0, .int x1] [.int x1, .int x0, .ref 66] (N, am_ts T, I, L, am_rs r) Q)) from ?_)
    by_cases hc : (f_187 x1 I) = 0
    · rw [if_pos hc] at hw ⊢
      exact ⟨trivial, hK _ _ hw⟩
    · rw [if_neg hc] at hw ⊢
      refine am_E.go ⟨am_ki_ N T I L r _, s_253 hw (fun q1 hk => ⟨q1, rfl, rfl, hk⟩), ?_⟩
      intro v h9 hv
      obtain ⟨q1, rfl, rfl, hw⟩ := hv
      try dsimp only at hw
      refine am_E.run [33] 2000 (show (if q1 = 0 then (True ∧ Q (some (.int (-3))) (N, am_ts T, I, L, am_rs r)) else (am_E S 252 (d + 4) 0 0 33 [.ref 66, .int x0, .int x1] [.int 0, .ref 66] (N, am_ts T, I, L, am_rs r) Q)) from ?_)
      by_cases hc : q1 = 0
      · rw [if_pos hc] at hw ⊢
        exact ⟨trivial, hK _ _ hw⟩
      · rw [if_neg hc] at hw ⊢
        refine am_E.go ⟨am_kv_I N T L r _, s_255 hw (fun I2 hk => ⟨I2, rfl, rfl, hk⟩), ?_⟩
        intro v h9 hv
        obtain ⟨I2, rfl, rfl, hw⟩ := hv
        try dsimp only at hw
        refine am_E.run [55] 2000 (show (if (10 + x0) < 0 ∨ 5510 ≤ Int32.toNatClampNeg (10 + x0) then False else (am_E S 252 (d + 4) 0 0 55 [.ref 66, .int x0, .int x1] [.int x1, .int (I2 68 (Int32.toNatClampNeg (10 + x0))), .ref 66, .int (10 + x0), .ref 68] (N, am_ts T, I2, L, am_rs r) Q)) from ?_)
        refine am_ifn hw.1 ?_
        replace hw := hw.2
        refine am_E.go ⟨am_ki_ N T I2 L r _, s_257 hw (fun q3 hk => ⟨q3, rfl, rfl, hk⟩), ?_⟩
        intro v h9 hv
        obtain ⟨q3, rfl, rfl, hw⟩ := hv
        try dsimp only at hw
        refine am_E.run [] 2000 (show (if (10 + x0) < 0 ∨ 5510 ≤ Int32.toNatClampNeg (10 + x0) then False else (if (10 + x0) < 0 ∨ 5510 ≤ Int32.toNatClampNeg (10 + x0) then False else (True ∧ Q (some (.int ((am_u I2 68 (Int32.toNatClampNeg (10 + x0)) q3) 68 (Int32.toNatClampNeg (10 + x0))))) (N, am_ts T, (am_u I2 68 (Int32.toNatClampNeg (10 + x0)) q3), L, am_rs r)))) from ?_)
        refine am_ifn hw.1 ?_
        replace hw := hw.2
        refine am_ifn hw.1 ?_
        replace hw := hw.2
        exact ⟨trivial, hK _ _ hw⟩
/-- KeyKeepersModel.give(III)I -/
def w_258 (x0 : Int32) (x1 : Int32) (x2 : Int32) (I : am_I) (K : Int32 → am_I → Prop) : Prop :=
  w_259 x0 x1 x2 (am_u I 66 0 0) (fun q1 I2 =>
    w_179 q1 I2 (fun q3 I4 =>
      K q3 I4))
set_option maxRecDepth 100000 in
theorem s_258 {S : am_S} {d : Nat} {N : Nat} {T : Nat → Nat × Nat} {I : am_I} {L : am_J} {r : Nat → Nat → Option Nat} {Q : am_Q} {x0 : Int32} {x1 : Int32} {x2 : Int32} {K : Int32 → am_I → Prop} (hw : w_258 x0 x1 x2 I K) (hK : ∀ (q : Int32) (I1 : am_I), K q I1 → Q (some (.int q)) (N, am_ts T, I1, L, am_rs r)) : am_E S 258 (d + 3) 0 0 0 [.ref 66, .int x0, .int x1, .int x2] [] (N, am_ts T, I, L, am_rs r) Q := by
  unfold w_258 at hw
  try dsimp only at hw
  refine am_E.run [10] 2000 (show (am_E S 258 (d + 3) 0 0 10 [.ref 66, .int x0, .int x1, .int x2] [.int x2, .int x1, .int x0, .ref 66, .ref 66] (N, am_ts T, (am_u I 66 0 0), L, am_rs r) Q) from ?_)
  refine am_E.go ⟨am_ki_I N T L r _, s_259 hw (fun q1 I2 hk => ⟨q1, I2, rfl, rfl, hk⟩), ?_⟩
  intro v h9 hv
  obtain ⟨q1, I2, rfl, rfl, hw⟩ := hv
  try dsimp only at hw
  show (am_E S 258 (d + 3) 0 0 13 [.ref 66, .int x0, .int x1, .int x2] [.int q1, .ref 66] (N, am_ts T, I2, L, am_rs r) Q)
  refine am_E.go ⟨am_ki_I N T L r _, s_179 hw (fun q3 I4 hk => ⟨q3, I4, rfl, rfl, hk⟩), ?_⟩
  intro v h9 hv
  obtain ⟨q3, I4, rfl, rfl, hw⟩ := hv
  try dsimp only at hw
  refine am_E.run [] 2000 (show (True ∧ Q (some (.int q3)) (N, am_ts T, I4, L, am_rs r)) from ?_)
  exact ⟨trivial, hK _ _ hw⟩
/-- KeyKeepersModel.inspectNow()I -/
def w_261 (I : am_I) (K : Int32 → am_I → Prop) : Prop :=
  if (I 68 1) = 0 then
    K (-3) I
  else
    w_255 2 I (fun I1 =>
      w_262 I1 (fun q2 I3 =>
        K q2 I3))
set_option maxRecDepth 100000 in
theorem s_261 {S : am_S} {d : Nat} {N : Nat} {T : Nat → Nat × Nat} {I : am_I} {L : am_J} {r : Nat → Nat → Option Nat} {Q : am_Q} {K : Int32 → am_I → Prop} (hw : w_261 I K) (hK : ∀ (q : Int32) (I1 : am_I), K q I1 → Q (some (.int q)) (N, am_ts T, I1, L, am_rs r)) : am_E S 261 (d + 2) 0 0 0 [.ref 66] [] (N, am_ts T, I, L, am_rs r) Q := by
  unfold w_261 at hw
  try dsimp only at hw
  refine am_E.run [14] 2000 (show (if (I 68 1) = 0 then (True ∧ Q (some (.int (-3))) (N, am_ts T, I, L, am_rs r)) else (am_E S 261 (d + 2) 0 0 14 [.ref 66] [.int 2, .ref 66] (N, am_ts T, I, L, am_rs r) Q)) from ?_)
  by_cases hc : (I 68 1) = 0
  · rw [if_pos hc] at hw ⊢
    exact ⟨trivial, hK _ _ hw⟩
  · rw [if_neg hc] at hw ⊢
    refine am_E.go ⟨am_kv_I N T L r _, s_255 hw (fun I1 hk => ⟨I1, rfl, rfl, hk⟩), ?_⟩
    intro v h9 hv
    obtain ⟨I1, rfl, rfl, hw⟩ := hv
    try dsimp only at hw
    refine am_E.run [18] 2000 (show (am_E S 261 (d + 2) 0 0 18 [.ref 66] [.ref 66] (N, am_ts T, I1, L, am_rs r) Q) from ?_)
    refine am_E.go ⟨am_ki_I N T L r _, s_262 hw (fun q2 I3 hk => ⟨q2, I3, rfl, rfl, hk⟩), ?_⟩
    intro v h9 hv
    obtain ⟨q2, I3, rfl, rfl, hw⟩ := hv
    try dsimp only at hw
    refine am_E.run [] 2000 (show (True ∧ Q (some (.int q2)) (N, am_ts T, I3, L, am_rs r)) from ?_)
    exact ⟨trivial, hK _ _ hw⟩
/-- KeyKeepersModel.pass()I -/
def w_264 (I : am_I) (K : Int32 → am_I → Prop) : Prop :=
  w_265 (am_u I 66 0 0) (fun q1 I2 =>
    w_179 q1 I2 (fun q3 I4 =>
      K q3 I4))
set_option maxRecDepth 100000 in
theorem s_264 {S : am_S} {d : Nat} {N : Nat} {T : Nat → Nat × Nat} {I : am_I} {L : am_J} {r : Nat → Nat → Option Nat} {Q : am_Q} {K : Int32 → am_I → Prop} (hw : w_264 I K) (hK : ∀ (q : Int32) (I1 : am_I), K q I1 → Q (some (.int q)) (N, am_ts T, I1, L, am_rs r)) : am_E S 264 (d + 3) 0 0 0 [.ref 66] [] (N, am_ts T, I, L, am_rs r) Q := by
  unfold w_264 at hw
  try dsimp only at hw
  refine am_E.run [7] 2000 (show (am_E S 264 (d + 3) 0 0 7 [.ref 66] [.ref 66, .ref 66] (N, am_ts T, (am_u I 66 0 0), L, am_rs r) Q) from ?_)
  refine am_E.go ⟨am_ki_I N T L r _, s_265 hw (fun q1 I2 hk => ⟨q1, I2, rfl, rfl, hk⟩), ?_⟩
  intro v h9 hv
  obtain ⟨q1, I2, rfl, rfl, hw⟩ := hv
  try dsimp only at hw
  show (am_E S 264 (d + 3) 0 0 10 [.ref 66] [.int q1, .ref 66] (N, am_ts T, I2, L, am_rs r) Q)
  refine am_E.go ⟨am_ki_I N T L r _, s_179 hw (fun q3 I4 hk => ⟨q3, I4, rfl, rfl, hk⟩), ?_⟩
  intro v h9 hv
  obtain ⟨q3, I4, rfl, rfl, hw⟩ := hv
  try dsimp only at hw
  refine am_E.run [] 2000 (show (True ∧ Q (some (.int q3)) (N, am_ts T, I4, L, am_rs r)) from ?_)
  exact ⟨trivial, hK _ _ hw⟩
/-- KeyKeepersModel.way(I)I -/
def w_266 (x0 : Int32) (I : am_I) (K : Int32 → am_I → Prop) : Prop :=
  if (f_192 x0 (am_u I 66 0 0)) = 0 then
    K (-1) (am_u I 66 0 0)
  else
    w_267 x0 0 (am_u I 66 0 0) (fun q1 I2 =>
      if q1 = 100000000 then
        K (-1) I2
      else
        K q1 I2)
set_option maxRecDepth 100000 in
theorem s_266 {S : am_S} {d : Nat} {N : Nat} {T : Nat → Nat × Nat} {I : am_I} {L : am_J} {r : Nat → Nat → Option Nat} {Q : am_Q} {x0 : Int32} {K : Int32 → am_I → Prop} (hw : w_266 x0 I K) (hK : ∀ (q : Int32) (I1 : am_I), K q I1 → Q (some (.int q)) (N, am_ts T, I1, L, am_rs r)) : am_E S 266 (d + 4) 0 0 0 [.ref 66, .int x0, am_jk] [] (N, am_ts T, I, L, am_rs r) Q := by
  unfold w_266 at hw
  try dsimp only at hw
  refine am_E.run [7] 2000 (show (am_E S 266 (d + 4) 0 0 7 [.ref 66, .int x0, am_jk] [.int x0, .ref 66] (N, am_ts T, (am_u I 66 0 0), L, am_rs r) Q) from ?_)
  refine am_E.go ⟨fun v h9 => v = some (.int (f_192 x0 (am_u I 66 0 0))) ∧ h9 = (N, am_ts T, (am_u I 66 0 0), L, am_rs r), s_192 ⟨rfl, rfl⟩, ?_⟩
  intro v h9 hv
  obtain ⟨rfl, rfl⟩ := hv
  refine am_E.run [18] 2000 (show (if (f_192 x0 (am_u I 66 0 0)) = 0 then (True ∧ Q (some (.int (-1))) (N, am_ts T, (am_u I 66 0 0), L, am_rs r)) else (am_E S 266 (d + 4) 0 0 18 [.ref 66, .int x0, am_jk] [.int 0, .int x0, .ref 66] (N, am_ts T, (am_u I 66 0 0), L, am_rs r) Q)) from ?_)
  by_cases hc : (f_192 x0 (am_u I 66 0 0)) = 0
  · rw [if_pos hc] at hw ⊢
    exact ⟨trivial, hK _ _ hw⟩
  · rw [if_neg hc] at hw ⊢
    refine am_E.go ⟨am_ki_I N T L r _, s_267 hw (fun q1 I2 hk => ⟨q1, I2, rfl, rfl, hk⟩), ?_⟩
    intro v h9 hv
    obtain ⟨q1, I2, rfl, rfl, hw⟩ := hv
    try dsimp only at hw
    refine am_E.run [] 2000 (show (if q1 = 100000000 then (True ∧ Q (some (.int (-1))) (N, am_ts T, I2, L, am_rs r)) else (True ∧ Q (some (.int q1)) (N, am_ts T, I2, L, am_rs r))) from ?_)
    by_cases hc : q1 = 100000000
    · rw [if_pos hc] at hw ⊢
      exact ⟨trivial, hK _ _ hw⟩
    · rw [if_neg hc] at hw ⊢
      exact ⟨trivial, hK _ _ hw⟩
/-- KeyKeepersModel.parted(II)I -/
def w_278 (x0 : Int32) (x1 : Int32) (I : am_I) (K : Int32 → am_I → Prop) : Prop :=
  if (f_182 (Int32.toInt64 x0) 1 6) = 0 then
    K (-1) (am_u I 66 0 0)
  else
    if (I 68 0) < x0 then
      K (-1) (am_u I 66 0 0)
    else
      if (f_182 (Int32.toInt64 x1) 0 (Int32.toInt64 x0)) = 0 then
        K (-1) (am_u I 66 0 0)
      else
        w_279 x0 (am_u I 66 0 0) (fun q1 I2 =>
          if x1 = 0 then
            K q1 I2
          else
            if q1 = 0 then
              K (-1) I2
            else
              ¬ ((x1 - 1) < 0 ∨ 6 ≤ Int32.toNatClampNeg (x1 - 1)) ∧
              K (I2 94 (Int32.toNatClampNeg (x1 - 1))) I2)
set_option maxRecDepth 100000 in
theorem s_278 {S : am_S} {d : Nat} {N : Nat} {T : Nat → Nat × Nat} {I : am_I} {L : am_J} {r : Nat → Nat → Option Nat} {Q : am_Q} {x0 : Int32} {x1 : Int32} {K : Int32 → am_I → Prop} (hw : w_278 x0 x1 I K) (hK : ∀ (q : Int32) (I1 : am_I), K q I1 → Q (some (.int q)) (N, am_ts T, I1, L, am_rs r)) : am_E S 278 (d + 4) 0 0 0 [.ref 66, .int x0, .int x1, am_jk] [] (N, am_ts T, I, L, am_rs r) Q := by
  unfold w_278 at hw
  try dsimp only at hw
  refine am_E.run [11] 2000 (show (am_E S 278 (d + 4) 0 0 11 [.ref 66, .int x0, .int x1, am_jk] [.long 6, .long 1, .long (Int32.toInt64 x0)] (N, am_ts T, (am_u I 66 0 0), L, am_rs r) Q) from ?_)
  refine am_E.go ⟨fun v h9 => v = some (.int (f_182 (Int32.toInt64 x0) 1 6)) ∧ h9 = (N, am_ts T, (am_u I 66 0 0), L, am_rs r), s_182 ⟨rfl, rfl⟩, ?_⟩
  intro v h9 hv
  obtain ⟨rfl, rfl⟩ := hv
  refine am_E.run [32] 2000 (show (if (f_182 (Int32.toInt64 x0) 1 6) = 0 then (True ∧ Q (some (.int (-1))) (N, am_ts T, (am_u I 66 0 0), L, am_rs r)) else (if (I 68 0) < x0 then (True ∧ Q (some (.int (-1))) (N, am_ts T, (am_u I 66 0 0), L, am_rs r)) else (am_E S 278 (d + 4) 0 0 32 [.ref 66, .int x0, .int x1, am_jk] [.long (Int32.toInt64 x0), .long 0, .long (Int32.toInt64 x1)] (N, am_ts T, (am_u I 66 0 0), L, am_rs r) Q))) from ?_)
  by_cases hc : (f_182 (Int32.toInt64 x0) 1 6) = 0
  · rw [if_pos hc] at hw ⊢
    exact ⟨trivial, hK _ _ hw⟩
  · rw [if_neg hc] at hw ⊢
    by_cases hc : (I 68 0) < x0
    · rw [if_pos hc] at hw ⊢
      exact ⟨trivial, hK _ _ hw⟩
    · rw [if_neg hc] at hw ⊢
      refine am_E.go ⟨fun v h9 => v = some (.int (f_182 (Int32.toInt64 x1) 0 (Int32.toInt64 x0))) ∧ h9 = (N, am_ts T, (am_u I 66 0 0), L, am_rs r), s_182 ⟨rfl, rfl⟩, ?_⟩
      intro v h9 hv
      obtain ⟨rfl, rfl⟩ := hv
      refine am_E.run [42] 2000 (show (if (f_182 (Int32.toInt64 x1) 0 (Int32.toInt64 x0)) = 0 then (True ∧ Q (some (.int (-1))) (N, am_ts T, (am_u I 66 0 0), L, am_rs r)) else (am_E S 278 (d + 4) 0 0 42 [.ref 66, .int x0, .int x1, am_jk] [.int x0, .ref 66] (N, am_ts T, (am_u I 66 0 0), L, am_rs r) Q)) from ?_)
      by_cases hc : (f_182 (Int32.toInt64 x1) 0 (Int32.toInt64 x0)) = 0
      · rw [if_pos hc] at hw ⊢
        exact ⟨trivial, hK _ _ hw⟩
      · rw [if_neg hc] at hw ⊢
        refine am_E.go ⟨am_ki_I N T L r _, s_279 hw (fun q1 I2 hk => ⟨q1, I2, rfl, rfl, hk⟩), ?_⟩
        intro v h9 hv
        obtain ⟨q1, I2, rfl, rfl, hw⟩ := hv
        try dsimp only at hw
        refine am_E.run [] 2000 (show (if x1 = 0 then (True ∧ Q (some (.int q1)) (N, am_ts T, I2, L, am_rs r)) else (if q1 = 0 then (True ∧ Q (some (.int (-1))) (N, am_ts T, I2, L, am_rs r)) else (if (x1 - 1) < 0 ∨ 6 ≤ Int32.toNatClampNeg (x1 - 1) then False else (True ∧ Q (some (.int (I2 94 (Int32.toNatClampNeg (x1 - 1))))) (N, am_ts T, I2, L, am_rs r))))) from ?_)
        by_cases hc : x1 = 0
        · rw [if_pos hc] at hw ⊢
          exact ⟨trivial, hK _ _ hw⟩
        · rw [if_neg hc] at hw ⊢
          by_cases hc : q1 = 0
          · rw [if_pos hc] at hw ⊢
            exact ⟨trivial, hK _ _ hw⟩
          · rw [if_neg hc] at hw ⊢
            refine am_ifn hw.1 ?_
            replace hw := hw.2
            exact ⟨trivial, hK _ _ hw⟩
def wb_295_198 (v5 : Int32) (s0 : Int32) (I : am_I) (L : am_J) (K : Int32 → am_I → am_J → Prop) : Prop :=
  if (0 : Int32) ≤ s0 then
    if v5 = 2 then
      K 0 (am_u (am_u I 66 55 s0) 66 54 ((I 66 54) + 1)) L
    else
      K 0 (am_u (am_u I 66 55 (I 66 55)) 66 54 ((I 66 54) + 1)) L
  else
    K (-3) I L
set_option maxHeartbeats 6000000 in
set_option maxRecDepth 100000 in
theorem sb_295_198 {S : am_S} {d : Nat} {N : Nat} {T : Nat → Nat × Nat} {I : am_I} {L : am_J} {r : Nat → Nat → Option Nat} {Q : am_Q} {v5 : Int32} {s0 : Int32} {K : Int32 → am_I → am_J → Prop} (hw : wb_295_198 v5 s0 I L K) (hK : ∀ (q : Int32) (I1 : am_I) (L1 : am_J), K q I1 L1 → Q (some (.int q)) (N, am_ts T, I1, L1, am_rs r)) : am_E S 295 (d + 5) 0 0 198 [.ref 66, am_jk, am_jk, am_jk, am_jk, .int v5, am_jk] [.int s0] (N, am_ts T, I, L, am_rs r) Q := by
  unfold wb_295_198 at hw
  try dsimp only at hw
  refine am_E.run [] 2000 (show (if (0 : Int32) ≤ s0 then (if v5 = 2 then (True ∧ Q (some (.int 0)) (N, am_ts T, (am_u (am_u I 66 55 s0) 66 54 ((I 66 54) + 1)), L, am_rs r)) else (True ∧ Q (some (.int 0)) (N, am_ts T, (am_u (am_u I 66 55 (I 66 55)) 66 54 ((I 66 54) + 1)), L, am_rs r))) else (True ∧ Q (some (.int (-3))) (N, am_ts T, I, L, am_rs r))) from ?_)
  by_cases hc : (0 : Int32) ≤ s0
  · rw [if_pos hc] at hw ⊢
    by_cases hc : v5 = 2
    · rw [if_pos hc] at hw ⊢
      exact ⟨trivial, hK _ _ _ hw⟩
    · rw [if_neg hc] at hw ⊢
      exact ⟨trivial, hK _ _ _ hw⟩
  · rw [if_neg hc] at hw ⊢
    exact ⟨trivial, hK _ _ _ hw⟩
def wb_295_107 (v1 : Int32) (I : am_I) (L : am_J) (K : Int32 → am_I → am_J → Prop) : Prop :=
  w_296 (v1 + 1) I L (fun q3 I4 L5 =>
    w_296 (v1 + 3) I4 L5 (fun q6 I7 L8 =>
      w_296 (v1 + 5) I7 L8 (fun q9 I10 L11 =>
        if (I10 66 57) = 0 then
          ¬ (v1 < 0 ∨ 120 ≤ Int32.toNatClampNeg v1) ∧
          if (I10 97 (Int32.toNatClampNeg v1)) = 0 then
            w_252 q3 q6 I10 (fun q18 I19 =>
              wb_295_198 (I10 97 (Int32.toNatClampNeg v1)) q18 I19 L11 K)
          else
            if (I10 97 (Int32.toNatClampNeg v1)) = 1 then
              w_259 q3 q6 q9 I10 (fun q16 I17 =>
                wb_295_198 (I10 97 (Int32.toNatClampNeg v1)) q16 I17 L11 K)
            else
              if (I10 97 (Int32.toNatClampNeg v1)) = 2 then
                w_261 I10 (fun q14 I15 =>
                  wb_295_198 (I10 97 (Int32.toNatClampNeg v1)) q14 I15 L11 K)
              else
                w_265 I10 (fun q12 I13 =>
                  if (0 : Int32) ≤ q12 then
                    if (I10 97 (Int32.toNatClampNeg v1)) = 2 then
                      K 0 (am_u (am_u I13 66 55 q12) 66 54 ((I13 66 54) + 1)) L11
                    else
                      K 0 (am_u (am_u I13 66 55 (I13 66 55)) 66 54 ((I13 66 54) + 1)) L11
                  else
                    K (-3) I13 L11)
        else
          K (-3) I10 L11)))
set_option maxHeartbeats 6000000 in
set_option maxRecDepth 100000 in
theorem sb_295_107 {S : am_S} {d : Nat} {N : Nat} {T : Nat → Nat × Nat} {I : am_I} {L : am_J} {r : Nat → Nat → Option Nat} {Q : am_Q} {v1 : Int32} {K : Int32 → am_I → am_J → Prop} (hw : wb_295_107 v1 I L K) (hK : ∀ (q : Int32) (I1 : am_I) (L1 : am_J), K q I1 L1 → Q (some (.int q)) (N, am_ts T, I1, L1, am_rs r)) : am_E S 295 (d + 5) 0 0 107 [.ref 66, .int v1, am_jk, am_jk, am_jk, am_jk, am_jk] [] (N, am_ts T, I, L, am_rs r) Q := by
  unfold wb_295_107 at hw
  try dsimp only at hw
  refine am_E.run [111] 2000 (show (am_E S 295 (d + 5) 0 0 111 [.ref 66, .int v1, am_jk, am_jk, am_jk, am_jk, am_jk] [.int (v1 + 1), .ref 66] (N, am_ts T, I, L, am_rs r) Q) from ?_)
  refine am_E.go ⟨am_ki_IL N T r _, s_296 hw (fun q3 I4 L5 hk => ⟨q3, I4, L5, rfl, rfl, hk⟩), ?_⟩
  intro v h9 hv
  obtain ⟨q3, I4, L5, rfl, rfl, hw⟩ := hv
  try dsimp only at hw
  refine am_E.run [119] 2000 (show (am_E S 295 (d + 5) 0 0 119 [.ref 66, .int v1, .int q3, am_jk, am_jk, am_jk, am_jk] [.int (v1 + 3), .ref 66] (N, am_ts T, I4, L5, am_rs r) Q) from ?_)
  refine am_E.go ⟨am_ki_IL N T r _, s_296 hw (fun q6 I7 L8 hk => ⟨q6, I7, L8, rfl, rfl, hk⟩), ?_⟩
  intro v h9 hv
  obtain ⟨q6, I7, L8, rfl, rfl, hw⟩ := hv
  try dsimp only at hw
  refine am_E.run [127] 2000 (show (am_E S 295 (d + 5) 0 0 127 [.ref 66, .int v1, .int q3, .int q6, am_jk, am_jk, am_jk] [.int (v1 + 5), .ref 66] (N, am_ts T, I7, L8, am_rs r) Q) from ?_)
  refine am_E.go ⟨am_ki_IL N T r _, s_296 hw (fun q9 I10 L11 hk => ⟨q9, I10, L11, rfl, rfl, hk⟩), ?_⟩
  intro v h9 hv
  obtain ⟨q9, I10, L11, rfl, rfl, hw⟩ := hv
  try dsimp only at hw
  refine am_E.run [158, 175, 188, 195] 2000 (show (if (I10 66 57) = 0 then (if v1 < 0 ∨ 120 ≤ Int32.toNatClampNeg v1 then False else (if (I10 97 (Int32.toNatClampNeg v1)) = 0 then (am_E S 295 (d + 5) 0 0 158 [.ref 66, .int v1, .int q3, .int q6, .int q9, .int (I10 97 (Int32.toNatClampNeg v1)), am_jk] [.int q6, .int q3, .ref 66] (N, am_ts T, I10, L11, am_rs r) Q) else (if (I10 97 (Int32.toNatClampNeg v1)) = 1 then (am_E S 295 (d + 5) 0 0 175 [.ref 66, .int v1, .int q3, .int q6, .int q9, .int (I10 97 (Int32.toNatClampNeg v1)), am_jk] [.int q9, .int q6, .int q3, .ref 66] (N, am_ts T, I10, L11, am_rs r) Q) else (if (I10 97 (Int32.toNatClampNeg v1)) = 2 then (am_E S 295 (d + 5) 0 0 188 [.ref 66, .int v1, .int q3, .int q6, .int q9, .int (I10 97 (Int32.toNatClampNeg v1)), am_jk] [.ref 66] (N, am_ts T, I10, L11, am_rs r) Q) else (am_E S 295 (d + 5) 0 0 195 [.ref 66, .int v1, .int q3, .int q6, .int q9, .int (I10 97 (Int32.toNatClampNeg v1)), am_jk] [.ref 66] (N, am_ts T, I10, L11, am_rs r) Q))))) else (True ∧ Q (some (.int (-3))) (N, am_ts T, I10, L11, am_rs r))) from ?_)
  by_cases hc : (I10 66 57) = 0
  · rw [if_pos hc] at hw ⊢
    refine am_ifn hw.1 ?_
    replace hw := hw.2
    by_cases hc : (I10 97 (Int32.toNatClampNeg v1)) = 0
    · rw [if_pos hc] at hw ⊢
      refine am_E.go ⟨am_ki_I N T L11 r _, s_252 hw (fun q18 I19 hk => ⟨q18, I19, rfl, rfl, hk⟩), ?_⟩
      intro v h9 hv
      obtain ⟨q18, I19, rfl, rfl, hw⟩ := hv
      try dsimp only at hw
      refine am_E.run [198] 2000 (show (am_E S 295 (d + 5) 0 0 198 [.ref 66, .int v1, .int q3, .int q6, .int q9, .int (I10 97 (Int32.toNatClampNeg v1)), am_jk] [.int q18] (N, am_ts T, I19, L11, am_rs r) Q) from ?_)
      exact am_E.junk (sb_295_198 hw hK) (am_le.cons (am_le.jk (am_le.jk (am_le.jk (am_le.jk (am_le.cons (am_le.cons am_le.nil)))))))
    · rw [if_neg hc] at hw ⊢
      by_cases hc : (I10 97 (Int32.toNatClampNeg v1)) = 1
      · rw [if_pos hc] at hw ⊢
        refine am_E.go ⟨am_ki_I N T L11 r _, s_259 hw (fun q16 I17 hk => ⟨q16, I17, rfl, rfl, hk⟩), ?_⟩
        intro v h9 hv
        obtain ⟨q16, I17, rfl, rfl, hw⟩ := hv
        try dsimp only at hw
        refine am_E.run [198] 2000 (show (am_E S 295 (d + 5) 0 0 198 [.ref 66, .int v1, .int q3, .int q6, .int q9, .int (I10 97 (Int32.toNatClampNeg v1)), am_jk] [.int q16] (N, am_ts T, I17, L11, am_rs r) Q) from ?_)
        exact am_E.junk (sb_295_198 hw hK) (am_le.cons (am_le.jk (am_le.jk (am_le.jk (am_le.jk (am_le.cons (am_le.cons am_le.nil)))))))
      · rw [if_neg hc] at hw ⊢
        by_cases hc : (I10 97 (Int32.toNatClampNeg v1)) = 2
        · rw [if_pos hc] at hw ⊢
          refine am_E.go ⟨am_ki_I N T L11 r _, s_261 hw (fun q14 I15 hk => ⟨q14, I15, rfl, rfl, hk⟩), ?_⟩
          intro v h9 hv
          obtain ⟨q14, I15, rfl, rfl, hw⟩ := hv
          try dsimp only at hw
          refine am_E.run [198] 2000 (show (am_E S 295 (d + 5) 0 0 198 [.ref 66, .int v1, .int q3, .int q6, .int q9, .int (I10 97 (Int32.toNatClampNeg v1)), am_jk] [.int q14] (N, am_ts T, I15, L11, am_rs r) Q) from ?_)
          exact am_E.junk (sb_295_198 hw hK) (am_le.cons (am_le.jk (am_le.jk (am_le.jk (am_le.jk (am_le.cons (am_le.cons am_le.nil)))))))
        · rw [if_neg hc] at hw ⊢
          refine am_E.go ⟨am_ki_I N T L11 r _, s_265 hw (fun q12 I13 hk => ⟨q12, I13, rfl, rfl, hk⟩), ?_⟩
          intro v h9 hv
          obtain ⟨q12, I13, rfl, rfl, hw⟩ := hv
          try dsimp only at hw
          refine am_E.run [] 2000 (show (if (0 : Int32) ≤ q12 then (if (I10 97 (Int32.toNatClampNeg v1)) = 2 then (True ∧ Q (some (.int 0)) (N, am_ts T, (am_u (am_u I13 66 55 q12) 66 54 ((I13 66 54) + 1)), L11, am_rs r)) else (True ∧ Q (some (.int 0)) (N, am_ts T, (am_u (am_u I13 66 55 (I13 66 55)) 66 54 ((I13 66 54) + 1)), L11, am_rs r))) else (True ∧ Q (some (.int (-3))) (N, am_ts T, I13, L11, am_rs r))) from ?_)
          by_cases hc : (0 : Int32) ≤ q12
          · rw [if_pos hc] at hw ⊢
            by_cases hc : (I10 97 (Int32.toNatClampNeg v1)) = 2
            · rw [if_pos hc] at hw ⊢
              exact ⟨trivial, hK _ _ _ hw⟩
            · rw [if_neg hc] at hw ⊢
              exact ⟨trivial, hK _ _ _ hw⟩
          · rw [if_neg hc] at hw ⊢
            exact ⟨trivial, hK _ _ _ hw⟩
  · rw [if_neg hc] at hw ⊢
    exact ⟨trivial, hK _ _ _ hw⟩
/-- KeyKeepersModel.run(I)I -/
def w_295 (x0 : Int32) (I : am_I) (L : am_J) (K : Int32 → am_I → am_J → Prop) : Prop :=
  w_237 0 I (fun q1 =>
    w_263 I (fun q2 =>
      ¬ ((x0 + 7) < 0 ∨ 120 ≤ Int32.toNatClampNeg (x0 + 7)) ∧
      ¬ ((x0 + 8) < 0 ∨ 120 ≤ Int32.toNatClampNeg (x0 + 8)) ∧
      if (I 97 (Int32.toNatClampNeg (x0 + 8))) ≤ (I 97 (Int32.toNatClampNeg (x0 + 7))) then
        wb_295_107 x0 (am_u I 66 57 0) (am_u (am_u (am_u (am_u (am_u L 85 1 (Int32.toInt64 q1)) 85 2 (Int32.toInt64 (I 68 9))) 85 3 (Int32.toInt64 q2)) 85 4 (Int32.toInt64 (I 66 54))) 85 5 (Int32.toInt64 (I 66 55))) K
      else
        w_296 (x0 + 7) (am_u I 66 57 0) (am_u (am_u (am_u (am_u (am_u L 85 1 (Int32.toInt64 q1)) 85 2 (Int32.toInt64 (I 68 9))) 85 3 (Int32.toInt64 q2)) 85 4 (Int32.toInt64 (I 66 54))) 85 5 (Int32.toInt64 (I 66 55))) (fun q20 I21 L22 =>
          if (I21 66 57) = 0 then
            if q20 = 0 then
              K 0 I21 L22
            else
              wb_295_107 x0 I21 L22 K
          else
            K 0 I21 L22)))
set_option maxHeartbeats 6000000 in
set_option maxRecDepth 100000 in
theorem s_295 {S : am_S} {d : Nat} {N : Nat} {T : Nat → Nat × Nat} {I : am_I} {L : am_J} {r : Nat → Nat → Option Nat} {Q : am_Q} {x0 : Int32} {K : Int32 → am_I → am_J → Prop} (hw : w_295 x0 I L K) (hK : ∀ (q : Int32) (I1 : am_I) (L1 : am_J), K q I1 L1 → Q (some (.int q)) (N, am_ts T, I1, L1, am_rs r)) : am_E S 295 (d + 5) 0 0 0 [.ref 66, .int x0, am_jk, am_jk, am_jk, am_jk, am_jk] [] (N, am_ts T, I, L, am_rs r) Q := by
  unfold w_295 at hw
  try dsimp only at hw
  refine am_E.run [7] 2000 (show (am_E S 295 (d + 5) 0 0 7 [.ref 66, .int x0, am_jk, am_jk, am_jk, am_jk, am_jk] [.int 0, .ref 66, .int 1, .ref 85] (N, am_ts T, I, L, am_rs r) Q) from ?_)
  refine am_E.go ⟨am_ki_ N T I L r _, s_237 hw (fun q1 hk => ⟨q1, rfl, rfl, hk⟩), ?_⟩
  intro v h9 hv
  obtain ⟨q1, rfl, rfl, hw⟩ := hv
  try dsimp only at hw
  refine am_E.run [32] 2000 (show (am_E S 295 (d + 5) 0 0 32 [.ref 66, .int x0, am_jk, am_jk, am_jk, am_jk, am_jk] [.ref 66, .int 3, .ref 85] (N, am_ts T, I, (am_u (am_u L 85 1 (Int32.toInt64 q1)) 85 2 (Int32.toInt64 (I 68 9))), am_rs r) Q) from ?_)
  refine am_E.go ⟨am_ki_ N T I (am_u (am_u L 85 1 (Int32.toInt64 q1)) 85 2 (Int32.toInt64 (I 68 9))) r _, s_263 hw (fun q2 hk => ⟨q2, rfl, rfl, hk⟩), ?_⟩
  intro v h9 hv
  obtain ⟨q2, rfl, rfl, hw⟩ := hv
  try dsimp only at hw
  refine am_E.run [90, 107] 2000 (show (if (x0 + 7) < 0 ∨ 120 ≤ Int32.toNatClampNeg (x0 + 7) then False else (if (x0 + 8) < 0 ∨ 120 ≤ Int32.toNatClampNeg (x0 + 8) then False else (if (I 97 (Int32.toNatClampNeg (x0 + 8))) ≤ (I 97 (Int32.toNatClampNeg (x0 + 7))) then (am_E S 295 (d + 5) 0 0 107 [.ref 66, .int x0, am_jk, am_jk, am_jk, am_jk, am_jk] [] (N, am_ts T, (am_u I 66 57 0), (am_u (am_u (am_u (am_u (am_u L 85 1 (Int32.toInt64 q1)) 85 2 (Int32.toInt64 (I 68 9))) 85 3 (Int32.toInt64 q2)) 85 4 (Int32.toInt64 (I 66 54))) 85 5 (Int32.toInt64 (I 66 55))), am_rs r) Q) else (am_E S 295 (d + 5) 0 0 90 [.ref 66, .int x0, am_jk, am_jk, am_jk, am_jk, am_jk] [.int (x0 + 7), .ref 66] (N, am_ts T, (am_u I 66 57 0), (am_u (am_u (am_u (am_u (am_u L 85 1 (Int32.toInt64 q1)) 85 2 (Int32.toInt64 (I 68 9))) 85 3 (Int32.toInt64 q2)) 85 4 (Int32.toInt64 (I 66 54))) 85 5 (Int32.toInt64 (I 66 55))), am_rs r) Q)))) from ?_)
  refine am_ifn hw.1 ?_
  replace hw := hw.2
  refine am_ifn hw.1 ?_
  replace hw := hw.2
  by_cases hc : (I 97 (Int32.toNatClampNeg (x0 + 8))) ≤ (I 97 (Int32.toNatClampNeg (x0 + 7)))
  · rw [if_pos hc] at hw ⊢
    exact sb_295_107 hw hK
  · rw [if_neg hc] at hw ⊢
    refine am_E.go ⟨am_ki_IL N T r _, s_296 hw (fun q20 I21 L22 hk => ⟨q20, I21, L22, rfl, rfl, hk⟩), ?_⟩
    intro v h9 hv
    obtain ⟨q20, I21, L22, rfl, rfl, hw⟩ := hv
    try dsimp only at hw
    refine am_E.run [107] 2000 (show (if (I21 66 57) = 0 then (if q20 = 0 then (True ∧ Q (some (.int 0)) (N, am_ts T, I21, L22, am_rs r)) else (am_E S 295 (d + 5) 0 0 107 [.ref 66, .int x0, .int q20, am_jk, am_jk, am_jk, am_jk] [] (N, am_ts T, I21, L22, am_rs r) Q)) else (True ∧ Q (some (.int 0)) (N, am_ts T, I21, L22, am_rs r))) from ?_)
    by_cases hc : (I21 66 57) = 0
    · rw [if_pos hc] at hw ⊢
      by_cases hc : q20 = 0
      · rw [if_pos hc] at hw ⊢
        exact ⟨trivial, hK _ _ _ hw⟩
      · rw [if_neg hc] at hw ⊢
        exact am_E.junk (sb_295_107 hw hK) (am_le.cons (am_le.cons (am_le.jk (am_le.cons (am_le.cons (am_le.cons (am_le.cons am_le.nil)))))))
    · rw [if_neg hc] at hw ⊢
      exact ⟨trivial, hK _ _ _ hw⟩
/-- java/lang/String.charAt(I)C -/
def w_48 (x0 : Int32) (K : Int32 → Prop) : Prop :=
  ¬ (f_49 = 0) ∧
  w_50 x0 (fun q1 =>
    narrow .char (.int q1) = .int q1 ∧ K q1)
set_option maxRecDepth 100000 in
theorem s_48 {S : am_S} {d : Nat} {N : Nat} {T : Nat → Nat × Nat} {I : am_I} {L : am_J} {r : Nat → Nat → Option Nat} {Q : am_Q} {x0 : Int32} {K : Int32 → Prop} (hw : w_48 x0 K) (hK : ∀ (q : Int32), K q → Q (some (.int q)) (N, am_ts T, I, L, am_rs r)) : am_E S 48 (d + 3) 0 0 0 [.retAddr 2, .int x0] [] (N, am_ts T, I, L, am_rs r) Q := by
  unfold w_48 at hw
  try dsimp only at hw
  refine am_E.run [1] 2000 (show (am_E S 48 (d + 3) 0 0 1 [.retAddr 2, .int x0] [.retAddr 2] (N, am_ts T, I, L, am_rs r) Q) from ?_)
  refine am_E.go ⟨fun v h9 => v = some (.int f_49) ∧ h9 = (N, am_ts T, I, L, am_rs r), s_49 ⟨rfl, rfl⟩, ?_⟩
  intro v h9 hv
  obtain ⟨rfl, rfl⟩ := hv
  refine am_E.run [12] 2000 (show (if f_49 = 0 then False else (am_E S 48 (d + 3) 0 0 12 [.retAddr 2, .int x0] [.int x0, .retAddr 4] (N, am_ts T, I, L, am_rs r) Q)) from ?_)
  refine am_ifn hw.1 ?_
  replace hw := hw.2
  refine am_E.go ⟨am_ki_ N T I L r _, s_50 hw (fun q1 hk => ⟨q1, rfl, rfl, hk⟩), ?_⟩
  intro v h9 hv
  obtain ⟨q1, rfl, rfl, hw⟩ := hv
  try dsimp only at hw
  refine am_E.run [] 2000 (show (narrow .char (.int q1) = .int q1 ∧ Q (some (.int q1)) (N, am_ts T, I, L, am_rs r)) from ?_)
  exact ⟨hw.1, hK _ hw.2⟩
def lw_53_3 : Nat → Int32 → Int32 → Int32 → Int32 → am_I → (Int32 → Prop) → (Int32 → Prop) → Prop
  | 0, _, _, _, _, _, _, _ => False
  | n + 1, v1, v2, v3, v4, I, E0, R =>
    if v3 ≤ v4 then
      E0 v4
    else
      ¬ ((v1 + v4) < 0 ∨ 400 ≤ Int32.toNatClampNeg (v1 + v4)) ∧
      w_48 (v2 + v4) (fun q1 =>
        if (I 15 (Int32.toNatClampNeg (v1 + v4))) = q1 then
          lw_53_3 n v1 v2 v3 (v4 + 1) I E0 R
        else
          R 0)
set_option maxRecDepth 100000 in
theorem sl_53_3 {S : am_S} {d : Nat} {Q : am_Q} {N : Nat} {T : Nat → Nat × Nat} {I : am_I} {L : am_J} {r : Nat → Nat → Option Nat} {E0 : Int32 → Prop} {R : Int32 → Prop} : ∀ (n : Nat) {v1 : Int32} {v2 : Int32} {v3 : Int32} {v4 : Int32}, lw_53_3 n v1 v2 v3 v4 I E0 R → (∀ (o4 : Int32), E0 o4 → am_E S 53 (d + 4) 0 0 38 [.ref 14, .int v1, .int v2, .int v3, .int o4] [] (N, am_ts T, I, L, am_rs r) Q) → (∀ (q : Int32), R q → Q (some (.int q)) (N, am_ts T, I, L, am_rs r)) → am_E S 53 (d + 4) 0 0 3 [.ref 14, .int v1, .int v2, .int v3, .int v4] [] (N, am_ts T, I, L, am_rs r) Q
  | 0, _, _, _, _, hw, _, _ => hw.elim
  | n + 1, v1, v2, v3, v4, hw, hE0, hR => by
    have ih := @sl_53_3 S d Q N T I L r E0 R n
    unfold lw_53_3 at hw
    try dsimp only at hw
    refine am_E.run [24, 38] 2000 (show (if v3 ≤ v4 then (am_E S 53 (d + 4) 0 0 38 [.ref 14, .int v1, .int v2, .int v3, .int v4] [] (N, am_ts T, I, L, am_rs r) Q) else (if (v1 + v4) < 0 ∨ 400 ≤ Int32.toNatClampNeg (v1 + v4) then False else (am_E S 53 (d + 4) 0 0 24 [.ref 14, .int v1, .int v2, .int v3, .int v4] [.int (v2 + v4), .retAddr 2, .int (I 15 (Int32.toNatClampNeg (v1 + v4)))] (N, am_ts T, I, L, am_rs r) Q))) from ?_)
    by_cases hc : v3 ≤ v4
    · rw [if_pos hc] at hw ⊢
      exact hE0 _ hw
    · rw [if_neg hc] at hw ⊢
      refine am_ifn hw.1 ?_
      replace hw := hw.2
      refine am_E.go ⟨am_ki_ N T I L r _, s_48 hw (fun q1 hk => ⟨q1, rfl, rfl, hk⟩), ?_⟩
      intro v h9 hv
      obtain ⟨q1, rfl, rfl, hw⟩ := hv
      try dsimp only at hw
      refine am_E.run [3] 2000 (show (if (I 15 (Int32.toNatClampNeg (v1 + v4))) = q1 then (am_E S 53 (d + 4) 0 0 3 [.ref 14, .int v1, .int v2, .int v3, .int (v4 + 1)] [] (N, am_ts T, I, L, am_rs r) Q) else (((0 : Int32) = 0 ∨ (0 : Int32) = 1) ∧ Q (some (.int 0)) (N, am_ts T, I, L, am_rs r))) from ?_)
      by_cases hc : (I 15 (Int32.toNatClampNeg (v1 + v4))) = q1
      · rw [if_pos hc] at hw ⊢
        exact ih hw hE0 hR
      · rw [if_neg hc] at hw ⊢
        exact ⟨Or.inl rfl, hR _ hw⟩
/-- KeyKeepers$Reader.isWordAt(III)Z -/
def w_53 (x0 : Int32) (x1 : Int32) (x2 : Int32) (I : am_I) (K : Int32 → Prop) : Prop :=
  ∃ n3, lw_53_3 n3 x0 x1 x2 0 I (fun o2 =>
    K 1) K
set_option maxRecDepth 100000 in
theorem s_53 {S : am_S} {d : Nat} {N : Nat} {T : Nat → Nat × Nat} {I : am_I} {L : am_J} {r : Nat → Nat → Option Nat} {Q : am_Q} {x0 : Int32} {x1 : Int32} {x2 : Int32} {K : Int32 → Prop} (hw : w_53 x0 x1 x2 I K) (hK : ∀ (q : Int32), K q → Q (some (.int q)) (N, am_ts T, I, L, am_rs r)) : am_E S 53 (d + 4) 0 0 0 [.ref 14, .int x0, .int x1, .int x2, am_jk] [] (N, am_ts T, I, L, am_rs r) Q := by
  unfold w_53 at hw
  try dsimp only at hw
  refine am_E.run [3] 2000 (show (am_E S 53 (d + 4) 0 0 3 [.ref 14, .int x0, .int x1, .int x2, .int 0] [] (N, am_ts T, I, L, am_rs r) Q) from ?_)
  obtain ⟨n3, hw⟩ := hw
  refine sl_53_3 n3 hw (fun o2 hw => ?_) hK
  · try dsimp only at hw
    refine am_E.run [] 2000 (show (((1 : Int32) = 0 ∨ (1 : Int32) = 1) ∧ Q (some (.int 1)) (N, am_ts T, I, L, am_rs r)) from ?_)
    exact ⟨Or.inr rfl, hK _ hw⟩
/-- KeyKeepers$Reader.readLawClause()Z -/
def w_55 (I : am_I) (K : Int32 → am_I → Prop) : Prop :=
  if (f_13 ((I 14 8) - 1000000) 0 3) = 0 then
    K 0 I
  else
    w_56 ((I 14 8) - 1000000) I (fun I1 =>
      w_58 I1 (fun I2 =>
        if ((I 14 8) - 1000000) = 3 then
          w_57 1 I2 (fun I3 =>
            w_67 I3 (fun q4 I5 =>
              (q4 = 0 ∨ q4 = 1) ∧ K q4 I5))
        else
          wx_59 0 I2 (fun q6 I7 =>
            if q6 = 0 then
              K 0 I7
            else
              w_57 1 I7 (fun I8 =>
                w_67 I8 (fun q9 I10 =>
                  (q9 = 0 ∨ q9 = 1) ∧ K q9 I10)))))
set_option maxRecDepth 100000 in
theorem s_55 {S : am_S} {d : Nat} {N : Nat} {T : Nat → Nat × Nat} {I : am_I} {L : am_J} {r : Nat → Nat → Option Nat} {Q : am_Q} {K : Int32 → am_I → Prop} (hw : w_55 I K) (hK : ∀ (q : Int32) (I1 : am_I), K q I1 → Q (some (.int q)) (N, am_ts T, I1, L, am_rs r)) : am_E S 55 (d + 45) 0 0 0 [.ref 14, am_jk] [] (N, am_ts T, I, L, am_rs r) Q := by
  unfold w_55 at hw
  try dsimp only at hw
  refine am_E.run [11] 2000 (show (am_E S 55 (d + 45) 0 0 11 [.ref 14, .int ((I 14 8) - 1000000)] [.int 3, .int 0, .int ((I 14 8) - 1000000)] (N, am_ts T, I, L, am_rs r) Q) from ?_)
  refine am_E.go ⟨fun v h9 => v = some (.int (f_13 ((I 14 8) - 1000000) 0 3)) ∧ h9 = (N, am_ts T, I, L, am_rs r), s_13 ⟨rfl, rfl⟩, ?_⟩
  intro v h9 hv
  obtain ⟨rfl, rfl⟩ := hv
  refine am_E.run [24] 2000 (show (if (f_13 ((I 14 8) - 1000000) 0 3) = 0 then (((0 : Int32) = 0 ∨ (0 : Int32) = 1) ∧ Q (some (.int 0)) (N, am_ts T, I, L, am_rs r)) else (am_E S 55 (d + 45) 0 0 24 [.ref 14, .int ((I 14 8) - 1000000)] [.int ((I 14 8) - 1000000), .ref 16] (N, am_ts T, I, L, am_rs r) Q)) from ?_)
  by_cases hc : (f_13 ((I 14 8) - 1000000) 0 3) = 0
  · rw [if_pos hc] at hw ⊢
    exact ⟨Or.inl rfl, hK _ _ hw⟩
  · rw [if_neg hc] at hw ⊢
    refine am_E.go ⟨am_kv_I N T L r _, s_56 hw (fun I1 hk => ⟨I1, rfl, rfl, hk⟩), ?_⟩
    intro v h9 hv
    obtain ⟨I1, rfl, rfl, hw⟩ := hv
    try dsimp only at hw
    refine am_E.run [28] 2000 (show (am_E S 55 (d + 45) 0 0 28 [.ref 14, .int ((I 14 8) - 1000000)] [.ref 14] (N, am_ts T, I1, L, am_rs r) Q) from ?_)
    refine am_E.go ⟨am_kv_I N T L r _, s_58 hw (fun I2 hk => ⟨I2, rfl, rfl, hk⟩), ?_⟩
    intro v h9 hv
    obtain ⟨I2, rfl, rfl, hw⟩ := hv
    try dsimp only at hw
    refine am_E.run [38, 51] 2000 (show (if ((I 14 8) - 1000000) = 3 then (am_E S 55 (d + 45) 0 0 51 [.ref 14, .int ((I 14 8) - 1000000)] [.int 1, .ref 16] (N, am_ts T, I2, L, am_rs r) Q) else (am_E S 55 (d + 45) 0 0 38 [.ref 14, .int ((I 14 8) - 1000000)] [.int 0, .ref 14] (N, am_ts T, I2, L, am_rs r) Q)) from ?_)
    by_cases hc : ((I 14 8) - 1000000) = 3
    · rw [if_pos hc] at hw ⊢
      refine am_E.go ⟨am_kv_I N T L r _, s_57 hw (fun I3 hk => ⟨I3, rfl, rfl, hk⟩), ?_⟩
      intro v h9 hv
      obtain ⟨I3, rfl, rfl, hw⟩ := hv
      try dsimp only at hw
      refine am_E.run [55] 2000 (show (am_E S 55 (d + 45) 0 0 55 [.ref 14, .int ((I 14 8) - 1000000)] [.ref 14] (N, am_ts T, I3, L, am_rs r) Q) from ?_)
      refine am_E.go ⟨am_ki_I N T L r _, s_67 hw (fun q4 I5 hk => ⟨q4, I5, rfl, rfl, hk⟩), ?_⟩
      intro v h9 hv
      obtain ⟨q4, I5, rfl, rfl, hw⟩ := hv
      try dsimp only at hw
      refine am_E.run [] 2000 (show ((q4 = 0 ∨ q4 = 1) ∧ Q (some (.int q4)) (N, am_ts T, I5, L, am_rs r)) from ?_)
      exact ⟨hw.1, hK _ _ hw.2⟩
    · rw [if_neg hc] at hw ⊢
      refine am_E.go ⟨am_ki_I N T L r _, sx_59 hw (fun q6 I7 hk => ⟨q6, I7, rfl, rfl, hk⟩), ?_⟩
      intro v h9 hv
      obtain ⟨q6, I7, rfl, rfl, hw⟩ := hv
      try dsimp only at hw
      refine am_E.run [51] 2000 (show (if q6 = 0 then (((0 : Int32) = 0 ∨ (0 : Int32) = 1) ∧ Q (some (.int 0)) (N, am_ts T, I7, L, am_rs r)) else (am_E S 55 (d + 45) 0 0 51 [.ref 14, .int ((I 14 8) - 1000000)] [.int 1, .ref 16] (N, am_ts T, I7, L, am_rs r) Q)) from ?_)
      by_cases hc : q6 = 0
      · rw [if_pos hc] at hw ⊢
        exact ⟨Or.inl rfl, hK _ _ hw⟩
      · rw [if_neg hc] at hw ⊢
        refine am_E.go ⟨am_kv_I N T L r _, s_57 hw (fun I8 hk => ⟨I8, rfl, rfl, hk⟩), ?_⟩
        intro v h9 hv
        obtain ⟨I8, rfl, rfl, hw⟩ := hv
        try dsimp only at hw
        refine am_E.run [55] 2000 (show (am_E S 55 (d + 45) 0 0 55 [.ref 14, .int ((I 14 8) - 1000000)] [.ref 14] (N, am_ts T, I8, L, am_rs r) Q) from ?_)
        refine am_E.go ⟨am_ki_I N T L r _, s_67 hw (fun q9 I10 hk => ⟨q9, I10, rfl, rfl, hk⟩), ?_⟩
        intro v h9 hv
        obtain ⟨q9, I10, rfl, rfl, hw⟩ := hv
        try dsimp only at hw
        refine am_E.run [] 2000 (show ((q9 = 0 ∨ q9 = 1) ∧ Q (some (.int q9)) (N, am_ts T, I10, L, am_rs r)) from ?_)
        exact ⟨hw.1, hK _ _ hw.2⟩
/-- KeyKeepers$Sergeant.doesOne(LKeyKeepers$Prison;LKeyKeepers$Goings;I)Z -/
def w_93 (x2 : Int32) (T : Nat → Nat × Nat) (r : Nat → Nat → Option Nat) (I : am_I) (K : Int32 → am_I → Prop) : Prop :=
  if x2 = 0 then
    w_94 (I 54 0) (I 54 1) T r I (fun q1 I2 =>
      if q1 < 0 then
        K 0 I2
      else
        K 1 I2)
  else
  if x2 = 1 then
    w_99 (I 54 0) (I 54 1) (I 54 2) T r I (fun q3 I4 =>
      if q3 < 0 then
        K 0 I4
      else
        K 1 I4)
  else
  if x2 = 2 then
    w_100 T r I (fun q5 I6 =>
      if q5 < 0 then
        K 0 (am_u I6 35 2 q5)
      else
        K 1 (am_u I6 35 2 q5))
  else
  w_102 T r I (fun q7 I8 =>
    if q7 < 0 then
      K 0 I8
    else
      K 1 I8)
set_option maxRecDepth 100000 in
theorem s_93 {S : am_S} {d : Nat} {N : Nat} {T : Nat → Nat × Nat} {I : am_I} {L : am_J} {r : Nat → Nat → Option Nat} {Q : am_Q} {x2 : Int32} {K : Int32 → am_I → Prop} (hw : w_93 x2 T r I K) (hK : ∀ (q : Int32) (I1 : am_I), K q I1 → Q (some (.int q)) (N, am_ts T, I1, L, am_rs r)) : am_E S 93 (d + 4) 0 0 0 [.ref 35, .ref 1, .ref 29, .int x2, am_jk] [] (N, am_ts T, I, L, am_rs r) Q := by
  unfold w_93 at hw
  try dsimp only at hw
  refine am_E.run [1] 2000 (show (am_E S 93 (d + 4) 0 0 1 [.ref 35, .ref 1, .ref 29, .int x2, am_jk] [.int x2] (N, am_ts T, I, L, am_rs r) Q) from ?_)
  by_cases hc0 : x2 = 0
  · rw [if_pos hc0] at hw
    refine am_E.swap (k := 0) hc0 ?_
    refine am_E.go (show (am_E S 93 (d + 4) 0 0 28 [.ref 35, .ref 1, .ref 29, .int x2, am_jk] [] (N, am_ts T, I, L, am_rs r) Q) from ?_)
    refine am_E.run [42] 2000 (show (am_E S 93 (d + 4) 0 0 42 [.ref 35, .ref 1, .ref 29, .int x2, am_jk] [.int (I 54 1), .int (I 54 0), .ref 1, .ref 29] (N, am_ts T, I, L, am_rs r) Q) from ?_)
    refine am_E.go ⟨am_ki_I N T L r _, s_94 hw (fun q1 I2 hk => ⟨q1, I2, rfl, rfl, hk⟩), ?_⟩
    intro v h9 hv
    obtain ⟨q1, I2, rfl, rfl, hw⟩ := hv
    try dsimp only at hw
    refine am_E.run [] 2000 (show (if q1 < 0 then (((0 : Int32) = 0 ∨ (0 : Int32) = 1) ∧ Q (some (.int 0)) (N, am_ts T, I2, L, am_rs r)) else (((1 : Int32) = 0 ∨ (1 : Int32) = 1) ∧ Q (some (.int 1)) (N, am_ts T, I2, L, am_rs r))) from ?_)
    by_cases hc : q1 < 0
    · rw [if_pos hc] at hw ⊢
      exact ⟨Or.inl rfl, hK _ _ hw⟩
    · rw [if_neg hc] at hw ⊢
      exact ⟨Or.inr rfl, hK _ _ hw⟩
  rw [if_neg hc0] at hw
  by_cases hc1 : x2 = 1
  · rw [if_pos hc1] at hw
    refine am_E.swap (k := 1) hc1 ?_
    refine am_E.go (show (am_E S 93 (d + 4) 0 0 54 [.ref 35, .ref 1, .ref 29, .int x2, am_jk] [] (N, am_ts T, I, L, am_rs r) Q) from ?_)
    refine am_E.run [74] 2000 (show (am_E S 93 (d + 4) 0 0 74 [.ref 35, .ref 1, .ref 29, .int x2, am_jk] [.int (I 54 2), .int (I 54 1), .int (I 54 0), .ref 1, .ref 29] (N, am_ts T, I, L, am_rs r) Q) from ?_)
    refine am_E.go ⟨am_ki_I N T L r _, s_99 hw (fun q3 I4 hk => ⟨q3, I4, rfl, rfl, hk⟩), ?_⟩
    intro v h9 hv
    obtain ⟨q3, I4, rfl, rfl, hw⟩ := hv
    try dsimp only at hw
    refine am_E.run [] 2000 (show (if q3 < 0 then (((0 : Int32) = 0 ∨ (0 : Int32) = 1) ∧ Q (some (.int 0)) (N, am_ts T, I4, L, am_rs r)) else (((1 : Int32) = 0 ∨ (1 : Int32) = 1) ∧ Q (some (.int 1)) (N, am_ts T, I4, L, am_rs r))) from ?_)
    by_cases hc : q3 < 0
    · rw [if_pos hc] at hw ⊢
      exact ⟨Or.inl rfl, hK _ _ hw⟩
    · rw [if_neg hc] at hw ⊢
      exact ⟨Or.inr rfl, hK _ _ hw⟩
  rw [if_neg hc1] at hw
  by_cases hc2 : x2 = 2
  · rw [if_pos hc2] at hw
    refine am_E.swap (k := 2) hc2 ?_
    refine am_E.go (show (am_E S 93 (d + 4) 0 0 86 [.ref 35, .ref 1, .ref 29, .int x2, am_jk] [] (N, am_ts T, I, L, am_rs r) Q) from ?_)
    refine am_E.run [88] 2000 (show (am_E S 93 (d + 4) 0 0 88 [.ref 35, .ref 1, .ref 29, .int x2, am_jk] [.ref 1, .ref 29] (N, am_ts T, I, L, am_rs r) Q) from ?_)
    refine am_E.go ⟨am_ki_I N T L r _, s_100 hw (fun q5 I6 hk => ⟨q5, I6, rfl, rfl, hk⟩), ?_⟩
    intro v h9 hv
    obtain ⟨q5, I6, rfl, rfl, hw⟩ := hv
    try dsimp only at hw
    refine am_E.run [] 2000 (show (if q5 < 0 then (((0 : Int32) = 0 ∨ (0 : Int32) = 1) ∧ Q (some (.int 0)) (N, am_ts T, (am_u I6 35 2 q5), L, am_rs r)) else (((1 : Int32) = 0 ∨ (1 : Int32) = 1) ∧ Q (some (.int 1)) (N, am_ts T, (am_u I6 35 2 q5), L, am_rs r))) from ?_)
    by_cases hc : q5 < 0
    · rw [if_pos hc] at hw ⊢
      exact ⟨Or.inl rfl, hK _ _ hw⟩
    · rw [if_neg hc] at hw ⊢
      exact ⟨Or.inr rfl, hK _ _ hw⟩
  rw [if_neg hc2] at hw
  have hd : (x2).toInt < 0 ∨ 2 < (x2).toInt := by
    have g0 := am_ine hc0
    have g1 := am_ine hc1
    have g2 := am_ine hc2
    change (x2).toInt ≠ 0 at g0
    change (x2).toInt ≠ 1 at g1
    change (x2).toInt ≠ 2 at g2
    omega
  refine am_E.go (show (if (x2).toInt < 0 ∨ 2 < (x2).toInt then (am_E S 93 (d + 4) 0 0 110 [.ref 35, .ref 1, .ref 29, .int x2, am_jk] [] (N, am_ts T, I, L, am_rs r) Q) else _) from ?_)
  rw [if_pos hd]
  refine am_E.run [112] 2000 (show (am_E S 93 (d + 4) 0 0 112 [.ref 35, .ref 1, .ref 29, .int x2, am_jk] [.ref 1, .ref 29] (N, am_ts T, I, L, am_rs r) Q) from ?_)
  refine am_E.go ⟨am_ki_I N T L r _, s_102 hw (fun q7 I8 hk => ⟨q7, I8, rfl, rfl, hk⟩), ?_⟩
  intro v h9 hv
  obtain ⟨q7, I8, rfl, rfl, hw⟩ := hv
  try dsimp only at hw
  refine am_E.run [] 2000 (show (if q7 < 0 then (((0 : Int32) = 0 ∨ (0 : Int32) = 1) ∧ Q (some (.int 0)) (N, am_ts T, I8, L, am_rs r)) else (((1 : Int32) = 0 ∨ (1 : Int32) = 1) ∧ Q (some (.int 1)) (N, am_ts T, I8, L, am_rs r))) from ?_)
  by_cases hc : q7 < 0
  · rw [if_pos hc] at hw ⊢
    exact ⟨Or.inl rfl, hK _ _ hw⟩
  · rw [if_neg hc] at hw ⊢
    exact ⟨Or.inr rfl, hK _ _ hw⟩
/-- KeyKeepers.asks(III)I -/
def w_107 (x0 : Int32) (x1 : Int32) (x2 : Int32) (T : Nat → Nat × Nat) (r : Nat → Nat → Option Nat) (I : am_I) (K : Int32 → am_I → Prop) : Prop :=
  if (4 : Int32) ≤ x1 then
    if (f_27 x0 I) = 0 then
      K (-1) I
    else
      if (f_13 x2 0 7) = 0 then
        K (-1) I
      else
        w_108 (I 1 16) T r I (fun q1 =>
          (q1 = none →
            if x1 = 0 then
              w_109n x0 x2 0 I (fun q3 I4 =>
                K q3 I4)
            else
            if x1 = 1 then
              w_109n x0 x2 1 I (fun q5 I6 =>
                K q5 I6)
            else
            if x1 = 2 then
              w_113n x0 x2 0 I (fun q7 I8 =>
                if q7 = 0 then
                  K 0 I8
                else
                  K 1 I8)
            else
            if x1 = 3 then
              w_113n x0 x2 1 I (fun q9 I10 =>
                if q9 = 0 then
                  K 0 I10
                else
                  K 1 I10)
            else
            if x1 = 4 then
              w_114n x0 x2 I (fun q11 I12 =>
                K q11 I12)
            else
            if x1 = 5 then
              w_115n x0 x2 I (fun q13 I14 =>
                K q13 I14)
            else
            if x1 = 6 then
              w_116n x0 x2 I (fun q15 I16 =>
                if q15 = 0 then
                  K 0 I16
                else
                  K 1 I16)
            else
            K (-1) I) ∧ ∀ t2, q1 = some t2 →
            if x1 = 0 then
              w_109s t2 x0 x2 0 T r I (fun q17 I18 =>
                K q17 I18)
            else
            if x1 = 1 then
              w_109s t2 x0 x2 1 T r I (fun q19 I20 =>
                K q19 I20)
            else
            if x1 = 2 then
              w_113s t2 x0 x2 0 T r I (fun q21 I22 =>
                if q21 = 0 then
                  K 0 I22
                else
                  K 1 I22)
            else
            if x1 = 3 then
              w_113s t2 x0 x2 1 T r I (fun q23 I24 =>
                if q23 = 0 then
                  K 0 I24
                else
                  K 1 I24)
            else
            if x1 = 4 then
              w_114s t2 x0 x2 T r I (fun q25 I26 =>
                K q25 I26)
            else
            if x1 = 5 then
              w_115s t2 x0 x2 T r I (fun q27 I28 =>
                K q27 I28)
            else
            if x1 = 6 then
              w_116s t2 x0 x2 T r I (fun q29 I30 =>
                if q29 = 0 then
                  K 0 I30
                else
                  K 1 I30)
            else
            K (-1) I)
  else
    if (f_27 x0 I) = 0 then
      K (-1) I
    else
      if (f_13 x2 0 5) = 0 then
        K (-1) I
      else
        w_108 (I 1 16) T r I (fun q31 =>
          (q31 = none →
            if x1 = 0 then
              w_109n x0 x2 0 I (fun q33 I34 =>
                K q33 I34)
            else
            if x1 = 1 then
              w_109n x0 x2 1 I (fun q35 I36 =>
                K q35 I36)
            else
            if x1 = 2 then
              w_113n x0 x2 0 I (fun q37 I38 =>
                if q37 = 0 then
                  K 0 I38
                else
                  K 1 I38)
            else
            if x1 = 3 then
              w_113n x0 x2 1 I (fun q39 I40 =>
                if q39 = 0 then
                  K 0 I40
                else
                  K 1 I40)
            else
            if x1 = 4 then
              w_114n x0 x2 I (fun q41 I42 =>
                K q41 I42)
            else
            if x1 = 5 then
              w_115n x0 x2 I (fun q43 I44 =>
                K q43 I44)
            else
            if x1 = 6 then
              w_116n x0 x2 I (fun q45 I46 =>
                if q45 = 0 then
                  K 0 I46
                else
                  K 1 I46)
            else
            K (-1) I) ∧ ∀ t32, q31 = some t32 →
            if x1 = 0 then
              w_109s t32 x0 x2 0 T r I (fun q47 I48 =>
                K q47 I48)
            else
            if x1 = 1 then
              w_109s t32 x0 x2 1 T r I (fun q49 I50 =>
                K q49 I50)
            else
            if x1 = 2 then
              w_113s t32 x0 x2 0 T r I (fun q51 I52 =>
                if q51 = 0 then
                  K 0 I52
                else
                  K 1 I52)
            else
            if x1 = 3 then
              w_113s t32 x0 x2 1 T r I (fun q53 I54 =>
                if q53 = 0 then
                  K 0 I54
                else
                  K 1 I54)
            else
            if x1 = 4 then
              w_114s t32 x0 x2 T r I (fun q55 I56 =>
                K q55 I56)
            else
            if x1 = 5 then
              w_115s t32 x0 x2 T r I (fun q57 I58 =>
                K q57 I58)
            else
            if x1 = 6 then
              w_116s t32 x0 x2 T r I (fun q59 I60 =>
                if q59 = 0 then
                  K 0 I60
                else
                  K 1 I60)
            else
            K (-1) I)
set_option maxHeartbeats 6000000 in
set_option maxRecDepth 100000 in
theorem s_107 {S : am_S} {d : Nat} {N : Nat} {T : Nat → Nat × Nat} {I : am_I} {L : am_J} {r : Nat → Nat → Option Nat} {Q : am_Q} {x0 : Int32} {x1 : Int32} {x2 : Int32} {K : Int32 → am_I → Prop} (hw : w_107 x0 x1 x2 T r I K) (hK : ∀ (q : Int32) (I1 : am_I), K q I1 → Q (some (.int q)) (N, am_ts T, I1, L, am_rs r)) : am_E S 107 (d + 5) 0 0 0 [.ref 0, .int x0, .int x1, .int x2, am_jk, am_jk] [] (N, am_ts T, I, L, am_rs r) Q := by
  unfold w_107 at hw
  try dsimp only at hw
  refine am_E.run [18] 2000 (show (if (4 : Int32) ≤ x1 then (am_E S 107 (d + 5) 0 0 18 [.ref 0, .int x0, .int x1, .int x2, .int 7, am_jk] [.int x0, .ref 1] (N, am_ts T, I, L, am_rs r) Q) else (am_E S 107 (d + 5) 0 0 18 [.ref 0, .int x0, .int x1, .int x2, .int 5, am_jk] [.int x0, .ref 1] (N, am_ts T, I, L, am_rs r) Q)) from ?_)
  by_cases hc : (4 : Int32) ≤ x1
  · rw [if_pos hc] at hw ⊢
    refine am_E.go ⟨fun v h9 => v = some (.int (f_27 x0 I)) ∧ h9 = (N, am_ts T, I, L, am_rs r), s_27 ⟨rfl, rfl⟩, ?_⟩
    intro v h9 hv
    obtain ⟨rfl, rfl⟩ := hv
    refine am_E.run [28] 2000 (show (if (f_27 x0 I) = 0 then (True ∧ Q (some (.int (-1))) (N, am_ts T, I, L, am_rs r)) else (am_E S 107 (d + 5) 0 0 28 [.ref 0, .int x0, .int x1, .int x2, .int 7, am_jk] [.int 7, .int 0, .int x2] (N, am_ts T, I, L, am_rs r) Q)) from ?_)
    by_cases hc : (f_27 x0 I) = 0
    · rw [if_pos hc] at hw ⊢
      exact ⟨trivial, hK _ _ hw⟩
    · rw [if_neg hc] at hw ⊢
      refine am_E.go ⟨fun v h9 => v = some (.int (f_13 x2 0 7)) ∧ h9 = (N, am_ts T, I, L, am_rs r), s_13 ⟨rfl, rfl⟩, ?_⟩
      intro v h9 hv
      obtain ⟨rfl, rfl⟩ := hv
      refine am_E.run [47] 2000 (show (if (f_13 x2 0 7) = 0 then (True ∧ Q (some (.int (-1))) (N, am_ts T, I, L, am_rs r)) else (am_E S 107 (d + 5) 0 0 47 [.ref 0, .int x0, .int x1, .int x2, .int 7, am_jk] [.int (I 1 16), .ref 1] (N, am_ts T, I, L, am_rs r) Q)) from ?_)
      by_cases hc : (f_13 x2 0 7) = 0
      · rw [if_pos hc] at hw ⊢
        exact ⟨trivial, hK _ _ hw⟩
      · rw [if_neg hc] at hw ⊢
        refine am_E.go ⟨am_kr_ N T I L r _, s_108 hw (fun q1 hk => ⟨q1, rfl, rfl, hk⟩), ?_⟩
        intro v h9 hv
        obtain ⟨q1, rfl, rfl, hw⟩ := hv
        try dsimp only at hw
        show (am_E S 107 (d + 5) 0 0 50 [.ref 0, .int x0, .int x1, .int x2, .int 7, am_jk] [am_rv q1] (N, am_ts T, I, L, am_rs r) Q)
        cases hx : q1 with
        | none =>
          replace hw := hw.1 hx
          refine am_E.run [53] 2000 (show (am_E S 107 (d + 5) 0 0 53 [.ref 0, .int x0, .int x1, .int x2, .int 7, .null] [.int x1] (N, am_ts T, I, L, am_rs r) Q) from ?_)
          by_cases hc0 : x1 = 0
          · rw [if_pos hc0] at hw
            refine am_E.swap (k := 0) hc0 ?_
            refine am_E.go (show (am_E S 107 (d + 5) 0 0 96 [.ref 0, .int x0, .int x1, .int x2, .int 7, .null] [] (N, am_ts T, I, L, am_rs r) Q) from ?_)
            refine am_E.run [109] 2000 (show (am_E S 107 (d + 5) 0 0 109 [.ref 0, .int x0, .int x1, .int x2, .int 7, .null] [.int 0, .int x2, .int x0, .null, .ref 1, .ref 23] (N, am_ts T, I, L, am_rs r) Q) from ?_)
            refine am_E.go ⟨am_ki_I N T L r _, s_109n hw (fun q3 I4 hk => ⟨q3, I4, rfl, rfl, hk⟩), ?_⟩
            intro v h9 hv
            obtain ⟨q3, I4, rfl, rfl, hw⟩ := hv
            try dsimp only at hw
            refine am_E.run [] 2000 (show (True ∧ Q (some (.int q3)) (N, am_ts T, I4, L, am_rs r)) from ?_)
            exact ⟨trivial, hK _ _ hw⟩
          rw [if_neg hc0] at hw
          by_cases hc1 : x1 = 1
          · rw [if_pos hc1] at hw
            refine am_E.swap (k := 1) hc1 ?_
            refine am_E.go (show (am_E S 107 (d + 5) 0 0 113 [.ref 0, .int x0, .int x1, .int x2, .int 7, .null] [] (N, am_ts T, I, L, am_rs r) Q) from ?_)
            refine am_E.run [126] 2000 (show (am_E S 107 (d + 5) 0 0 126 [.ref 0, .int x0, .int x1, .int x2, .int 7, .null] [.int 1, .int x2, .int x0, .null, .ref 1, .ref 23] (N, am_ts T, I, L, am_rs r) Q) from ?_)
            refine am_E.go ⟨am_ki_I N T L r _, s_109n hw (fun q5 I6 hk => ⟨q5, I6, rfl, rfl, hk⟩), ?_⟩
            intro v h9 hv
            obtain ⟨q5, I6, rfl, rfl, hw⟩ := hv
            try dsimp only at hw
            refine am_E.run [] 2000 (show (True ∧ Q (some (.int q5)) (N, am_ts T, I6, L, am_rs r)) from ?_)
            exact ⟨trivial, hK _ _ hw⟩
          rw [if_neg hc1] at hw
          by_cases hc2 : x1 = 2
          · rw [if_pos hc2] at hw
            refine am_E.swap (k := 2) hc2 ?_
            refine am_E.go (show (am_E S 107 (d + 5) 0 0 130 [.ref 0, .int x0, .int x1, .int x2, .int 7, .null] [] (N, am_ts T, I, L, am_rs r) Q) from ?_)
            refine am_E.run [143] 2000 (show (am_E S 107 (d + 5) 0 0 143 [.ref 0, .int x0, .int x1, .int x2, .int 7, .null] [.int 0, .int x2, .int x0, .null, .ref 1, .ref 23] (N, am_ts T, I, L, am_rs r) Q) from ?_)
            refine am_E.go ⟨am_ki_I N T L r _, s_113n hw (fun q7 I8 hk => ⟨q7, I8, rfl, rfl, hk⟩), ?_⟩
            intro v h9 hv
            obtain ⟨q7, I8, rfl, rfl, hw⟩ := hv
            try dsimp only at hw
            refine am_E.run [] 2000 (show (if q7 = 0 then (True ∧ Q (some (.int 0)) (N, am_ts T, I8, L, am_rs r)) else (True ∧ Q (some (.int 1)) (N, am_ts T, I8, L, am_rs r))) from ?_)
            by_cases hc : q7 = 0
            · rw [if_pos hc] at hw ⊢
              exact ⟨trivial, hK _ _ hw⟩
            · rw [if_neg hc] at hw ⊢
              exact ⟨trivial, hK _ _ hw⟩
          rw [if_neg hc2] at hw
          by_cases hc3 : x1 = 3
          · rw [if_pos hc3] at hw
            refine am_E.swap (k := 3) hc3 ?_
            refine am_E.go (show (am_E S 107 (d + 5) 0 0 155 [.ref 0, .int x0, .int x1, .int x2, .int 7, .null] [] (N, am_ts T, I, L, am_rs r) Q) from ?_)
            refine am_E.run [168] 2000 (show (am_E S 107 (d + 5) 0 0 168 [.ref 0, .int x0, .int x1, .int x2, .int 7, .null] [.int 1, .int x2, .int x0, .null, .ref 1, .ref 23] (N, am_ts T, I, L, am_rs r) Q) from ?_)
            refine am_E.go ⟨am_ki_I N T L r _, s_113n hw (fun q9 I10 hk => ⟨q9, I10, rfl, rfl, hk⟩), ?_⟩
            intro v h9 hv
            obtain ⟨q9, I10, rfl, rfl, hw⟩ := hv
            try dsimp only at hw
            refine am_E.run [] 2000 (show (if q9 = 0 then (True ∧ Q (some (.int 0)) (N, am_ts T, I10, L, am_rs r)) else (True ∧ Q (some (.int 1)) (N, am_ts T, I10, L, am_rs r))) from ?_)
            by_cases hc : q9 = 0
            · rw [if_pos hc] at hw ⊢
              exact ⟨trivial, hK _ _ hw⟩
            · rw [if_neg hc] at hw ⊢
              exact ⟨trivial, hK _ _ hw⟩
          rw [if_neg hc3] at hw
          by_cases hc4 : x1 = 4
          · rw [if_pos hc4] at hw
            refine am_E.swap (k := 4) hc4 ?_
            refine am_E.go (show (am_E S 107 (d + 5) 0 0 180 [.ref 0, .int x0, .int x1, .int x2, .int 7, .null] [] (N, am_ts T, I, L, am_rs r) Q) from ?_)
            refine am_E.run [192] 2000 (show (am_E S 107 (d + 5) 0 0 192 [.ref 0, .int x0, .int x1, .int x2, .int 7, .null] [.int x2, .int x0, .null, .ref 1, .ref 23] (N, am_ts T, I, L, am_rs r) Q) from ?_)
            refine am_E.go ⟨am_ki_I N T L r _, s_114n hw (fun q11 I12 hk => ⟨q11, I12, rfl, rfl, hk⟩), ?_⟩
            intro v h9 hv
            obtain ⟨q11, I12, rfl, rfl, hw⟩ := hv
            try dsimp only at hw
            refine am_E.run [] 2000 (show (True ∧ Q (some (.int q11)) (N, am_ts T, I12, L, am_rs r)) from ?_)
            exact ⟨trivial, hK _ _ hw⟩
          rw [if_neg hc4] at hw
          by_cases hc5 : x1 = 5
          · rw [if_pos hc5] at hw
            refine am_E.swap (k := 5) hc5 ?_
            refine am_E.go (show (am_E S 107 (d + 5) 0 0 196 [.ref 0, .int x0, .int x1, .int x2, .int 7, .null] [] (N, am_ts T, I, L, am_rs r) Q) from ?_)
            refine am_E.run [208] 2000 (show (am_E S 107 (d + 5) 0 0 208 [.ref 0, .int x0, .int x1, .int x2, .int 7, .null] [.int x2, .int x0, .null, .ref 1, .ref 23] (N, am_ts T, I, L, am_rs r) Q) from ?_)
            refine am_E.go ⟨am_ki_I N T L r _, s_115n hw (fun q13 I14 hk => ⟨q13, I14, rfl, rfl, hk⟩), ?_⟩
            intro v h9 hv
            obtain ⟨q13, I14, rfl, rfl, hw⟩ := hv
            try dsimp only at hw
            refine am_E.run [] 2000 (show (True ∧ Q (some (.int q13)) (N, am_ts T, I14, L, am_rs r)) from ?_)
            exact ⟨trivial, hK _ _ hw⟩
          rw [if_neg hc5] at hw
          by_cases hc6 : x1 = 6
          · rw [if_pos hc6] at hw
            refine am_E.swap (k := 6) hc6 ?_
            refine am_E.go (show (am_E S 107 (d + 5) 0 0 212 [.ref 0, .int x0, .int x1, .int x2, .int 7, .null] [] (N, am_ts T, I, L, am_rs r) Q) from ?_)
            refine am_E.run [224] 2000 (show (am_E S 107 (d + 5) 0 0 224 [.ref 0, .int x0, .int x1, .int x2, .int 7, .null] [.int x2, .int x0, .null, .ref 1, .ref 23] (N, am_ts T, I, L, am_rs r) Q) from ?_)
            refine am_E.go ⟨am_ki_I N T L r _, s_116n hw (fun q15 I16 hk => ⟨q15, I16, rfl, rfl, hk⟩), ?_⟩
            intro v h9 hv
            obtain ⟨q15, I16, rfl, rfl, hw⟩ := hv
            try dsimp only at hw
            refine am_E.run [] 2000 (show (if q15 = 0 then (True ∧ Q (some (.int 0)) (N, am_ts T, I16, L, am_rs r)) else (True ∧ Q (some (.int 1)) (N, am_ts T, I16, L, am_rs r))) from ?_)
            by_cases hc : q15 = 0
            · rw [if_pos hc] at hw ⊢
              exact ⟨trivial, hK _ _ hw⟩
            · rw [if_neg hc] at hw ⊢
              exact ⟨trivial, hK _ _ hw⟩
          rw [if_neg hc6] at hw
          have hd : (x1).toInt < 0 ∨ 6 < (x1).toInt := by
            have g0 := am_ine hc0
            have g1 := am_ine hc1
            have g2 := am_ine hc2
            have g3 := am_ine hc3
            have g4 := am_ine hc4
            have g5 := am_ine hc5
            have g6 := am_ine hc6
            change (x1).toInt ≠ 0 at g0
            change (x1).toInt ≠ 1 at g1
            change (x1).toInt ≠ 2 at g2
            change (x1).toInt ≠ 3 at g3
            change (x1).toInt ≠ 4 at g4
            change (x1).toInt ≠ 5 at g5
            change (x1).toInt ≠ 6 at g6
            omega
          refine am_E.go (show (if (x1).toInt < 0 ∨ 6 < (x1).toInt then (am_E S 107 (d + 5) 0 0 236 [.ref 0, .int x0, .int x1, .int x2, .int 7, .null] [] (N, am_ts T, I, L, am_rs r) Q) else _) from ?_)
          rw [if_pos hd]
          refine am_E.run [] 2000 (show (True ∧ Q (some (.int (-1))) (N, am_ts T, I, L, am_rs r)) from ?_)
          exact ⟨trivial, hK _ _ hw⟩
        | some t2 =>
          replace hw := hw.2 t2 hx
          refine am_E.run [53] 2000 (show (am_E S 107 (d + 5) 0 0 53 [.ref 0, .int x0, .int x1, .int x2, .int 7, .ref t2] [.int x1] (N, am_ts T, I, L, am_rs r) Q) from ?_)
          by_cases hc0 : x1 = 0
          · rw [if_pos hc0] at hw
            refine am_E.swap (k := 0) hc0 ?_
            refine am_E.go (show (am_E S 107 (d + 5) 0 0 96 [.ref 0, .int x0, .int x1, .int x2, .int 7, .ref t2] [] (N, am_ts T, I, L, am_rs r) Q) from ?_)
            refine am_E.run [109] 2000 (show (am_E S 107 (d + 5) 0 0 109 [.ref 0, .int x0, .int x1, .int x2, .int 7, .ref t2] [.int 0, .int x2, .int x0, .ref t2, .ref 1, .ref 23] (N, am_ts T, I, L, am_rs r) Q) from ?_)
            refine am_E.go ⟨am_ki_I N T L r _, s_109s hw (fun q17 I18 hk => ⟨q17, I18, rfl, rfl, hk⟩), ?_⟩
            intro v h9 hv
            obtain ⟨q17, I18, rfl, rfl, hw⟩ := hv
            try dsimp only at hw
            refine am_E.run [] 2000 (show (True ∧ Q (some (.int q17)) (N, am_ts T, I18, L, am_rs r)) from ?_)
            exact ⟨trivial, hK _ _ hw⟩
          rw [if_neg hc0] at hw
          by_cases hc1 : x1 = 1
          · rw [if_pos hc1] at hw
            refine am_E.swap (k := 1) hc1 ?_
            refine am_E.go (show (am_E S 107 (d + 5) 0 0 113 [.ref 0, .int x0, .int x1, .int x2, .int 7, .ref t2] [] (N, am_ts T, I, L, am_rs r) Q) from ?_)
            refine am_E.run [126] 2000 (show (am_E S 107 (d + 5) 0 0 126 [.ref 0, .int x0, .int x1, .int x2, .int 7, .ref t2] [.int 1, .int x2, .int x0, .ref t2, .ref 1, .ref 23] (N, am_ts T, I, L, am_rs r) Q) from ?_)
            refine am_E.go ⟨am_ki_I N T L r _, s_109s hw (fun q19 I20 hk => ⟨q19, I20, rfl, rfl, hk⟩), ?_⟩
            intro v h9 hv
            obtain ⟨q19, I20, rfl, rfl, hw⟩ := hv
            try dsimp only at hw
            refine am_E.run [] 2000 (show (True ∧ Q (some (.int q19)) (N, am_ts T, I20, L, am_rs r)) from ?_)
            exact ⟨trivial, hK _ _ hw⟩
          rw [if_neg hc1] at hw
          by_cases hc2 : x1 = 2
          · rw [if_pos hc2] at hw
            refine am_E.swap (k := 2) hc2 ?_
            refine am_E.go (show (am_E S 107 (d + 5) 0 0 130 [.ref 0, .int x0, .int x1, .int x2, .int 7, .ref t2] [] (N, am_ts T, I, L, am_rs r) Q) from ?_)
            refine am_E.run [143] 2000 (show (am_E S 107 (d + 5) 0 0 143 [.ref 0, .int x0, .int x1, .int x2, .int 7, .ref t2] [.int 0, .int x2, .int x0, .ref t2, .ref 1, .ref 23] (N, am_ts T, I, L, am_rs r) Q) from ?_)
            refine am_E.go ⟨am_ki_I N T L r _, s_113s hw (fun q21 I22 hk => ⟨q21, I22, rfl, rfl, hk⟩), ?_⟩
            intro v h9 hv
            obtain ⟨q21, I22, rfl, rfl, hw⟩ := hv
            try dsimp only at hw
            refine am_E.run [] 2000 (show (if q21 = 0 then (True ∧ Q (some (.int 0)) (N, am_ts T, I22, L, am_rs r)) else (True ∧ Q (some (.int 1)) (N, am_ts T, I22, L, am_rs r))) from ?_)
            by_cases hc : q21 = 0
            · rw [if_pos hc] at hw ⊢
              exact ⟨trivial, hK _ _ hw⟩
            · rw [if_neg hc] at hw ⊢
              exact ⟨trivial, hK _ _ hw⟩
          rw [if_neg hc2] at hw
          by_cases hc3 : x1 = 3
          · rw [if_pos hc3] at hw
            refine am_E.swap (k := 3) hc3 ?_
            refine am_E.go (show (am_E S 107 (d + 5) 0 0 155 [.ref 0, .int x0, .int x1, .int x2, .int 7, .ref t2] [] (N, am_ts T, I, L, am_rs r) Q) from ?_)
            refine am_E.run [168] 2000 (show (am_E S 107 (d + 5) 0 0 168 [.ref 0, .int x0, .int x1, .int x2, .int 7, .ref t2] [.int 1, .int x2, .int x0, .ref t2, .ref 1, .ref 23] (N, am_ts T, I, L, am_rs r) Q) from ?_)
            refine am_E.go ⟨am_ki_I N T L r _, s_113s hw (fun q23 I24 hk => ⟨q23, I24, rfl, rfl, hk⟩), ?_⟩
            intro v h9 hv
            obtain ⟨q23, I24, rfl, rfl, hw⟩ := hv
            try dsimp only at hw
            refine am_E.run [] 2000 (show (if q23 = 0 then (True ∧ Q (some (.int 0)) (N, am_ts T, I24, L, am_rs r)) else (True ∧ Q (some (.int 1)) (N, am_ts T, I24, L, am_rs r))) from ?_)
            by_cases hc : q23 = 0
            · rw [if_pos hc] at hw ⊢
              exact ⟨trivial, hK _ _ hw⟩
            · rw [if_neg hc] at hw ⊢
              exact ⟨trivial, hK _ _ hw⟩
          rw [if_neg hc3] at hw
          by_cases hc4 : x1 = 4
          · rw [if_pos hc4] at hw
            refine am_E.swap (k := 4) hc4 ?_
            refine am_E.go (show (am_E S 107 (d + 5) 0 0 180 [.ref 0, .int x0, .int x1, .int x2, .int 7, .ref t2] [] (N, am_ts T, I, L, am_rs r) Q) from ?_)
            refine am_E.run [192] 2000 (show (am_E S 107 (d + 5) 0 0 192 [.ref 0, .int x0, .int x1, .int x2, .int 7, .ref t2] [.int x2, .int x0, .ref t2, .ref 1, .ref 23] (N, am_ts T, I, L, am_rs r) Q) from ?_)
            refine am_E.go ⟨am_ki_I N T L r _, s_114s hw (fun q25 I26 hk => ⟨q25, I26, rfl, rfl, hk⟩), ?_⟩
            intro v h9 hv
            obtain ⟨q25, I26, rfl, rfl, hw⟩ := hv
            try dsimp only at hw
            refine am_E.run [] 2000 (show (True ∧ Q (some (.int q25)) (N, am_ts T, I26, L, am_rs r)) from ?_)
            exact ⟨trivial, hK _ _ hw⟩
          rw [if_neg hc4] at hw
          by_cases hc5 : x1 = 5
          · rw [if_pos hc5] at hw
            refine am_E.swap (k := 5) hc5 ?_
            refine am_E.go (show (am_E S 107 (d + 5) 0 0 196 [.ref 0, .int x0, .int x1, .int x2, .int 7, .ref t2] [] (N, am_ts T, I, L, am_rs r) Q) from ?_)
            refine am_E.run [208] 2000 (show (am_E S 107 (d + 5) 0 0 208 [.ref 0, .int x0, .int x1, .int x2, .int 7, .ref t2] [.int x2, .int x0, .ref t2, .ref 1, .ref 23] (N, am_ts T, I, L, am_rs r) Q) from ?_)
            refine am_E.go ⟨am_ki_I N T L r _, s_115s hw (fun q27 I28 hk => ⟨q27, I28, rfl, rfl, hk⟩), ?_⟩
            intro v h9 hv
            obtain ⟨q27, I28, rfl, rfl, hw⟩ := hv
            try dsimp only at hw
            refine am_E.run [] 2000 (show (True ∧ Q (some (.int q27)) (N, am_ts T, I28, L, am_rs r)) from ?_)
            exact ⟨trivial, hK _ _ hw⟩
          rw [if_neg hc5] at hw
          by_cases hc6 : x1 = 6
          · rw [if_pos hc6] at hw
            refine am_E.swap (k := 6) hc6 ?_
            refine am_E.go (show (am_E S 107 (d + 5) 0 0 212 [.ref 0, .int x0, .int x1, .int x2, .int 7, .ref t2] [] (N, am_ts T, I, L, am_rs r) Q) from ?_)
            refine am_E.run [224] 2000 (show (am_E S 107 (d + 5) 0 0 224 [.ref 0, .int x0, .int x1, .int x2, .int 7, .ref t2] [.int x2, .int x0, .ref t2, .ref 1, .ref 23] (N, am_ts T, I, L, am_rs r) Q) from ?_)
            refine am_E.go ⟨am_ki_I N T L r _, s_116s hw (fun q29 I30 hk => ⟨q29, I30, rfl, rfl, hk⟩), ?_⟩
            intro v h9 hv
            obtain ⟨q29, I30, rfl, rfl, hw⟩ := hv
            try dsimp only at hw
            refine am_E.run [] 2000 (show (if q29 = 0 then (True ∧ Q (some (.int 0)) (N, am_ts T, I30, L, am_rs r)) else (True ∧ Q (some (.int 1)) (N, am_ts T, I30, L, am_rs r))) from ?_)
            by_cases hc : q29 = 0
            · rw [if_pos hc] at hw ⊢
              exact ⟨trivial, hK _ _ hw⟩
            · rw [if_neg hc] at hw ⊢
              exact ⟨trivial, hK _ _ hw⟩
          rw [if_neg hc6] at hw
          have hd : (x1).toInt < 0 ∨ 6 < (x1).toInt := by
            have g0 := am_ine hc0
            have g1 := am_ine hc1
            have g2 := am_ine hc2
            have g3 := am_ine hc3
            have g4 := am_ine hc4
            have g5 := am_ine hc5
            have g6 := am_ine hc6
            change (x1).toInt ≠ 0 at g0
            change (x1).toInt ≠ 1 at g1
            change (x1).toInt ≠ 2 at g2
            change (x1).toInt ≠ 3 at g3
            change (x1).toInt ≠ 4 at g4
            change (x1).toInt ≠ 5 at g5
            change (x1).toInt ≠ 6 at g6
            omega
          refine am_E.go (show (if (x1).toInt < 0 ∨ 6 < (x1).toInt then (am_E S 107 (d + 5) 0 0 236 [.ref 0, .int x0, .int x1, .int x2, .int 7, .ref t2] [] (N, am_ts T, I, L, am_rs r) Q) else _) from ?_)
          rw [if_pos hd]
          refine am_E.run [] 2000 (show (True ∧ Q (some (.int (-1))) (N, am_ts T, I, L, am_rs r)) from ?_)
          exact ⟨trivial, hK _ _ hw⟩
  · rw [if_neg hc] at hw ⊢
    refine am_E.go ⟨fun v h9 => v = some (.int (f_27 x0 I)) ∧ h9 = (N, am_ts T, I, L, am_rs r), s_27 ⟨rfl, rfl⟩, ?_⟩
    intro v h9 hv
    obtain ⟨rfl, rfl⟩ := hv
    refine am_E.run [28] 2000 (show (if (f_27 x0 I) = 0 then (True ∧ Q (some (.int (-1))) (N, am_ts T, I, L, am_rs r)) else (am_E S 107 (d + 5) 0 0 28 [.ref 0, .int x0, .int x1, .int x2, .int 5, am_jk] [.int 5, .int 0, .int x2] (N, am_ts T, I, L, am_rs r) Q)) from ?_)
    by_cases hc : (f_27 x0 I) = 0
    · rw [if_pos hc] at hw ⊢
      exact ⟨trivial, hK _ _ hw⟩
    · rw [if_neg hc] at hw ⊢
      refine am_E.go ⟨fun v h9 => v = some (.int (f_13 x2 0 5)) ∧ h9 = (N, am_ts T, I, L, am_rs r), s_13 ⟨rfl, rfl⟩, ?_⟩
      intro v h9 hv
      obtain ⟨rfl, rfl⟩ := hv
      refine am_E.run [47] 2000 (show (if (f_13 x2 0 5) = 0 then (True ∧ Q (some (.int (-1))) (N, am_ts T, I, L, am_rs r)) else (am_E S 107 (d + 5) 0 0 47 [.ref 0, .int x0, .int x1, .int x2, .int 5, am_jk] [.int (I 1 16), .ref 1] (N, am_ts T, I, L, am_rs r) Q)) from ?_)
      by_cases hc : (f_13 x2 0 5) = 0
      · rw [if_pos hc] at hw ⊢
        exact ⟨trivial, hK _ _ hw⟩
      · rw [if_neg hc] at hw ⊢
        refine am_E.go ⟨am_kr_ N T I L r _, s_108 hw (fun q31 hk => ⟨q31, rfl, rfl, hk⟩), ?_⟩
        intro v h9 hv
        obtain ⟨q31, rfl, rfl, hw⟩ := hv
        try dsimp only at hw
        show (am_E S 107 (d + 5) 0 0 50 [.ref 0, .int x0, .int x1, .int x2, .int 5, am_jk] [am_rv q31] (N, am_ts T, I, L, am_rs r) Q)
        cases hx : q31 with
        | none =>
          replace hw := hw.1 hx
          refine am_E.run [53] 2000 (show (am_E S 107 (d + 5) 0 0 53 [.ref 0, .int x0, .int x1, .int x2, .int 5, .null] [.int x1] (N, am_ts T, I, L, am_rs r) Q) from ?_)
          by_cases hc0 : x1 = 0
          · rw [if_pos hc0] at hw
            refine am_E.swap (k := 0) hc0 ?_
            refine am_E.go (show (am_E S 107 (d + 5) 0 0 96 [.ref 0, .int x0, .int x1, .int x2, .int 5, .null] [] (N, am_ts T, I, L, am_rs r) Q) from ?_)
            refine am_E.run [109] 2000 (show (am_E S 107 (d + 5) 0 0 109 [.ref 0, .int x0, .int x1, .int x2, .int 5, .null] [.int 0, .int x2, .int x0, .null, .ref 1, .ref 23] (N, am_ts T, I, L, am_rs r) Q) from ?_)
            refine am_E.go ⟨am_ki_I N T L r _, s_109n hw (fun q33 I34 hk => ⟨q33, I34, rfl, rfl, hk⟩), ?_⟩
            intro v h9 hv
            obtain ⟨q33, I34, rfl, rfl, hw⟩ := hv
            try dsimp only at hw
            refine am_E.run [] 2000 (show (True ∧ Q (some (.int q33)) (N, am_ts T, I34, L, am_rs r)) from ?_)
            exact ⟨trivial, hK _ _ hw⟩
          rw [if_neg hc0] at hw
          by_cases hc1 : x1 = 1
          · rw [if_pos hc1] at hw
            refine am_E.swap (k := 1) hc1 ?_
            refine am_E.go (show (am_E S 107 (d + 5) 0 0 113 [.ref 0, .int x0, .int x1, .int x2, .int 5, .null] [] (N, am_ts T, I, L, am_rs r) Q) from ?_)
            refine am_E.run [126] 2000 (show (am_E S 107 (d + 5) 0 0 126 [.ref 0, .int x0, .int x1, .int x2, .int 5, .null] [.int 1, .int x2, .int x0, .null, .ref 1, .ref 23] (N, am_ts T, I, L, am_rs r) Q) from ?_)
            refine am_E.go ⟨am_ki_I N T L r _, s_109n hw (fun q35 I36 hk => ⟨q35, I36, rfl, rfl, hk⟩), ?_⟩
            intro v h9 hv
            obtain ⟨q35, I36, rfl, rfl, hw⟩ := hv
            try dsimp only at hw
            refine am_E.run [] 2000 (show (True ∧ Q (some (.int q35)) (N, am_ts T, I36, L, am_rs r)) from ?_)
            exact ⟨trivial, hK _ _ hw⟩
          rw [if_neg hc1] at hw
          by_cases hc2 : x1 = 2
          · rw [if_pos hc2] at hw
            refine am_E.swap (k := 2) hc2 ?_
            refine am_E.go (show (am_E S 107 (d + 5) 0 0 130 [.ref 0, .int x0, .int x1, .int x2, .int 5, .null] [] (N, am_ts T, I, L, am_rs r) Q) from ?_)
            refine am_E.run [143] 2000 (show (am_E S 107 (d + 5) 0 0 143 [.ref 0, .int x0, .int x1, .int x2, .int 5, .null] [.int 0, .int x2, .int x0, .null, .ref 1, .ref 23] (N, am_ts T, I, L, am_rs r) Q) from ?_)
            refine am_E.go ⟨am_ki_I N T L r _, s_113n hw (fun q37 I38 hk => ⟨q37, I38, rfl, rfl, hk⟩), ?_⟩
            intro v h9 hv
            obtain ⟨q37, I38, rfl, rfl, hw⟩ := hv
            try dsimp only at hw
            refine am_E.run [] 2000 (show (if q37 = 0 then (True ∧ Q (some (.int 0)) (N, am_ts T, I38, L, am_rs r)) else (True ∧ Q (some (.int 1)) (N, am_ts T, I38, L, am_rs r))) from ?_)
            by_cases hc : q37 = 0
            · rw [if_pos hc] at hw ⊢
              exact ⟨trivial, hK _ _ hw⟩
            · rw [if_neg hc] at hw ⊢
              exact ⟨trivial, hK _ _ hw⟩
          rw [if_neg hc2] at hw
          by_cases hc3 : x1 = 3
          · rw [if_pos hc3] at hw
            refine am_E.swap (k := 3) hc3 ?_
            refine am_E.go (show (am_E S 107 (d + 5) 0 0 155 [.ref 0, .int x0, .int x1, .int x2, .int 5, .null] [] (N, am_ts T, I, L, am_rs r) Q) from ?_)
            refine am_E.run [168] 2000 (show (am_E S 107 (d + 5) 0 0 168 [.ref 0, .int x0, .int x1, .int x2, .int 5, .null] [.int 1, .int x2, .int x0, .null, .ref 1, .ref 23] (N, am_ts T, I, L, am_rs r) Q) from ?_)
            refine am_E.go ⟨am_ki_I N T L r _, s_113n hw (fun q39 I40 hk => ⟨q39, I40, rfl, rfl, hk⟩), ?_⟩
            intro v h9 hv
            obtain ⟨q39, I40, rfl, rfl, hw⟩ := hv
            try dsimp only at hw
            refine am_E.run [] 2000 (show (if q39 = 0 then (True ∧ Q (some (.int 0)) (N, am_ts T, I40, L, am_rs r)) else (True ∧ Q (some (.int 1)) (N, am_ts T, I40, L, am_rs r))) from ?_)
            by_cases hc : q39 = 0
            · rw [if_pos hc] at hw ⊢
              exact ⟨trivial, hK _ _ hw⟩
            · rw [if_neg hc] at hw ⊢
              exact ⟨trivial, hK _ _ hw⟩
          rw [if_neg hc3] at hw
          by_cases hc4 : x1 = 4
          · rw [if_pos hc4] at hw
            refine am_E.swap (k := 4) hc4 ?_
            refine am_E.go (show (am_E S 107 (d + 5) 0 0 180 [.ref 0, .int x0, .int x1, .int x2, .int 5, .null] [] (N, am_ts T, I, L, am_rs r) Q) from ?_)
            refine am_E.run [192] 2000 (show (am_E S 107 (d + 5) 0 0 192 [.ref 0, .int x0, .int x1, .int x2, .int 5, .null] [.int x2, .int x0, .null, .ref 1, .ref 23] (N, am_ts T, I, L, am_rs r) Q) from ?_)
            refine am_E.go ⟨am_ki_I N T L r _, s_114n hw (fun q41 I42 hk => ⟨q41, I42, rfl, rfl, hk⟩), ?_⟩
            intro v h9 hv
            obtain ⟨q41, I42, rfl, rfl, hw⟩ := hv
            try dsimp only at hw
            refine am_E.run [] 2000 (show (True ∧ Q (some (.int q41)) (N, am_ts T, I42, L, am_rs r)) from ?_)
            exact ⟨trivial, hK _ _ hw⟩
          rw [if_neg hc4] at hw
          by_cases hc5 : x1 = 5
          · rw [if_pos hc5] at hw
            refine am_E.swap (k := 5) hc5 ?_
            refine am_E.go (show (am_E S 107 (d + 5) 0 0 196 [.ref 0, .int x0, .int x1, .int x2, .int 5, .null] [] (N, am_ts T, I, L, am_rs r) Q) from ?_)
            refine am_E.run [208] 2000 (show (am_E S 107 (d + 5) 0 0 208 [.ref 0, .int x0, .int x1, .int x2, .int 5, .null] [.int x2, .int x0, .null, .ref 1, .ref 23] (N, am_ts T, I, L, am_rs r) Q) from ?_)
            refine am_E.go ⟨am_ki_I N T L r _, s_115n hw (fun q43 I44 hk => ⟨q43, I44, rfl, rfl, hk⟩), ?_⟩
            intro v h9 hv
            obtain ⟨q43, I44, rfl, rfl, hw⟩ := hv
            try dsimp only at hw
            refine am_E.run [] 2000 (show (True ∧ Q (some (.int q43)) (N, am_ts T, I44, L, am_rs r)) from ?_)
            exact ⟨trivial, hK _ _ hw⟩
          rw [if_neg hc5] at hw
          by_cases hc6 : x1 = 6
          · rw [if_pos hc6] at hw
            refine am_E.swap (k := 6) hc6 ?_
            refine am_E.go (show (am_E S 107 (d + 5) 0 0 212 [.ref 0, .int x0, .int x1, .int x2, .int 5, .null] [] (N, am_ts T, I, L, am_rs r) Q) from ?_)
            refine am_E.run [224] 2000 (show (am_E S 107 (d + 5) 0 0 224 [.ref 0, .int x0, .int x1, .int x2, .int 5, .null] [.int x2, .int x0, .null, .ref 1, .ref 23] (N, am_ts T, I, L, am_rs r) Q) from ?_)
            refine am_E.go ⟨am_ki_I N T L r _, s_116n hw (fun q45 I46 hk => ⟨q45, I46, rfl, rfl, hk⟩), ?_⟩
            intro v h9 hv
            obtain ⟨q45, I46, rfl, rfl, hw⟩ := hv
            try dsimp only at hw
            refine am_E.run [] 2000 (show (if q45 = 0 then (True ∧ Q (some (.int 0)) (N, am_ts T, I46, L, am_rs r)) else (True ∧ Q (some (.int 1)) (N, am_ts T, I46, L, am_rs r))) from ?_)
            by_cases hc : q45 = 0
            · rw [if_pos hc] at hw ⊢
              exact ⟨trivial, hK _ _ hw⟩
            · rw [if_neg hc] at hw ⊢
              exact ⟨trivial, hK _ _ hw⟩
          rw [if_neg hc6] at hw
          have hd : (x1).toInt < 0 ∨ 6 < (x1).toInt := by
            have g0 := am_ine hc0
            have g1 := am_ine hc1
            have g2 := am_ine hc2
            have g3 := am_ine hc3
            have g4 := am_ine hc4
            have g5 := am_ine hc5
            have g6 := am_ine hc6
            change (x1).toInt ≠ 0 at g0
            change (x1).toInt ≠ 1 at g1
            change (x1).toInt ≠ 2 at g2
            change (x1).toInt ≠ 3 at g3
            change (x1).toInt ≠ 4 at g4
            change (x1).toInt ≠ 5 at g5
            change (x1).toInt ≠ 6 at g6
            omega
          refine am_E.go (show (if (x1).toInt < 0 ∨ 6 < (x1).toInt then (am_E S 107 (d + 5) 0 0 236 [.ref 0, .int x0, .int x1, .int x2, .int 5, .null] [] (N, am_ts T, I, L, am_rs r) Q) else _) from ?_)
          rw [if_pos hd]
          refine am_E.run [] 2000 (show (True ∧ Q (some (.int (-1))) (N, am_ts T, I, L, am_rs r)) from ?_)
          exact ⟨trivial, hK _ _ hw⟩
        | some t32 =>
          replace hw := hw.2 t32 hx
          refine am_E.run [53] 2000 (show (am_E S 107 (d + 5) 0 0 53 [.ref 0, .int x0, .int x1, .int x2, .int 5, .ref t32] [.int x1] (N, am_ts T, I, L, am_rs r) Q) from ?_)
          by_cases hc0 : x1 = 0
          · rw [if_pos hc0] at hw
            refine am_E.swap (k := 0) hc0 ?_
            refine am_E.go (show (am_E S 107 (d + 5) 0 0 96 [.ref 0, .int x0, .int x1, .int x2, .int 5, .ref t32] [] (N, am_ts T, I, L, am_rs r) Q) from ?_)
            refine am_E.run [109] 2000 (show (am_E S 107 (d + 5) 0 0 109 [.ref 0, .int x0, .int x1, .int x2, .int 5, .ref t32] [.int 0, .int x2, .int x0, .ref t32, .ref 1, .ref 23] (N, am_ts T, I, L, am_rs r) Q) from ?_)
            refine am_E.go ⟨am_ki_I N T L r _, s_109s hw (fun q47 I48 hk => ⟨q47, I48, rfl, rfl, hk⟩), ?_⟩
            intro v h9 hv
            obtain ⟨q47, I48, rfl, rfl, hw⟩ := hv
            try dsimp only at hw
            refine am_E.run [] 2000 (show (True ∧ Q (some (.int q47)) (N, am_ts T, I48, L, am_rs r)) from ?_)
            exact ⟨trivial, hK _ _ hw⟩
          rw [if_neg hc0] at hw
          by_cases hc1 : x1 = 1
          · rw [if_pos hc1] at hw
            refine am_E.swap (k := 1) hc1 ?_
            refine am_E.go (show (am_E S 107 (d + 5) 0 0 113 [.ref 0, .int x0, .int x1, .int x2, .int 5, .ref t32] [] (N, am_ts T, I, L, am_rs r) Q) from ?_)
            refine am_E.run [126] 2000 (show (am_E S 107 (d + 5) 0 0 126 [.ref 0, .int x0, .int x1, .int x2, .int 5, .ref t32] [.int 1, .int x2, .int x0, .ref t32, .ref 1, .ref 23] (N, am_ts T, I, L, am_rs r) Q) from ?_)
            refine am_E.go ⟨am_ki_I N T L r _, s_109s hw (fun q49 I50 hk => ⟨q49, I50, rfl, rfl, hk⟩), ?_⟩
            intro v h9 hv
            obtain ⟨q49, I50, rfl, rfl, hw⟩ := hv
            try dsimp only at hw
            refine am_E.run [] 2000 (show (True ∧ Q (some (.int q49)) (N, am_ts T, I50, L, am_rs r)) from ?_)
            exact ⟨trivial, hK _ _ hw⟩
          rw [if_neg hc1] at hw
          by_cases hc2 : x1 = 2
          · rw [if_pos hc2] at hw
            refine am_E.swap (k := 2) hc2 ?_
            refine am_E.go (show (am_E S 107 (d + 5) 0 0 130 [.ref 0, .int x0, .int x1, .int x2, .int 5, .ref t32] [] (N, am_ts T, I, L, am_rs r) Q) from ?_)
            refine am_E.run [143] 2000 (show (am_E S 107 (d + 5) 0 0 143 [.ref 0, .int x0, .int x1, .int x2, .int 5, .ref t32] [.int 0, .int x2, .int x0, .ref t32, .ref 1, .ref 23] (N, am_ts T, I, L, am_rs r) Q) from ?_)
            refine am_E.go ⟨am_ki_I N T L r _, s_113s hw (fun q51 I52 hk => ⟨q51, I52, rfl, rfl, hk⟩), ?_⟩
            intro v h9 hv
            obtain ⟨q51, I52, rfl, rfl, hw⟩ := hv
            try dsimp only at hw
            refine am_E.run [] 2000 (show (if q51 = 0 then (True ∧ Q (some (.int 0)) (N, am_ts T, I52, L, am_rs r)) else (True ∧ Q (some (.int 1)) (N, am_ts T, I52, L, am_rs r))) from ?_)
            by_cases hc : q51 = 0
            · rw [if_pos hc] at hw ⊢
              exact ⟨trivial, hK _ _ hw⟩
            · rw [if_neg hc] at hw ⊢
              exact ⟨trivial, hK _ _ hw⟩
          rw [if_neg hc2] at hw
          by_cases hc3 : x1 = 3
          · rw [if_pos hc3] at hw
            refine am_E.swap (k := 3) hc3 ?_
            refine am_E.go (show (am_E S 107 (d + 5) 0 0 155 [.ref 0, .int x0, .int x1, .int x2, .int 5, .ref t32] [] (N, am_ts T, I, L, am_rs r) Q) from ?_)
            refine am_E.run [168] 2000 (show (am_E S 107 (d + 5) 0 0 168 [.ref 0, .int x0, .int x1, .int x2, .int 5, .ref t32] [.int 1, .int x2, .int x0, .ref t32, .ref 1, .ref 23] (N, am_ts T, I, L, am_rs r) Q) from ?_)
            refine am_E.go ⟨am_ki_I N T L r _, s_113s hw (fun q53 I54 hk => ⟨q53, I54, rfl, rfl, hk⟩), ?_⟩
            intro v h9 hv
            obtain ⟨q53, I54, rfl, rfl, hw⟩ := hv
            try dsimp only at hw
            refine am_E.run [] 2000 (show (if q53 = 0 then (True ∧ Q (some (.int 0)) (N, am_ts T, I54, L, am_rs r)) else (True ∧ Q (some (.int 1)) (N, am_ts T, I54, L, am_rs r))) from ?_)
            by_cases hc : q53 = 0
            · rw [if_pos hc] at hw ⊢
              exact ⟨trivial, hK _ _ hw⟩
            · rw [if_neg hc] at hw ⊢
              exact ⟨trivial, hK _ _ hw⟩
          rw [if_neg hc3] at hw
          by_cases hc4 : x1 = 4
          · rw [if_pos hc4] at hw
            refine am_E.swap (k := 4) hc4 ?_
            refine am_E.go (show (am_E S 107 (d + 5) 0 0 180 [.ref 0, .int x0, .int x1, .int x2, .int 5, .ref t32] [] (N, am_ts T, I, L, am_rs r) Q) from ?_)
            refine am_E.run [192] 2000 (show (am_E S 107 (d + 5) 0 0 192 [.ref 0, .int x0, .int x1, .int x2, .int 5, .ref t32] [.int x2, .int x0, .ref t32, .ref 1, .ref 23] (N, am_ts T, I, L, am_rs r) Q) from ?_)
            refine am_E.go ⟨am_ki_I N T L r _, s_114s hw (fun q55 I56 hk => ⟨q55, I56, rfl, rfl, hk⟩), ?_⟩
            intro v h9 hv
            obtain ⟨q55, I56, rfl, rfl, hw⟩ := hv
            try dsimp only at hw
            refine am_E.run [] 2000 (show (True ∧ Q (some (.int q55)) (N, am_ts T, I56, L, am_rs r)) from ?_)
            exact ⟨trivial, hK _ _ hw⟩
          rw [if_neg hc4] at hw
          by_cases hc5 : x1 = 5
          · rw [if_pos hc5] at hw
            refine am_E.swap (k := 5) hc5 ?_
            refine am_E.go (show (am_E S 107 (d + 5) 0 0 196 [.ref 0, .int x0, .int x1, .int x2, .int 5, .ref t32] [] (N, am_ts T, I, L, am_rs r) Q) from ?_)
            refine am_E.run [208] 2000 (show (am_E S 107 (d + 5) 0 0 208 [.ref 0, .int x0, .int x1, .int x2, .int 5, .ref t32] [.int x2, .int x0, .ref t32, .ref 1, .ref 23] (N, am_ts T, I, L, am_rs r) Q) from ?_)
            refine am_E.go ⟨am_ki_I N T L r _, s_115s hw (fun q57 I58 hk => ⟨q57, I58, rfl, rfl, hk⟩), ?_⟩
            intro v h9 hv
            obtain ⟨q57, I58, rfl, rfl, hw⟩ := hv
            try dsimp only at hw
            refine am_E.run [] 2000 (show (True ∧ Q (some (.int q57)) (N, am_ts T, I58, L, am_rs r)) from ?_)
            exact ⟨trivial, hK _ _ hw⟩
          rw [if_neg hc5] at hw
          by_cases hc6 : x1 = 6
          · rw [if_pos hc6] at hw
            refine am_E.swap (k := 6) hc6 ?_
            refine am_E.go (show (am_E S 107 (d + 5) 0 0 212 [.ref 0, .int x0, .int x1, .int x2, .int 5, .ref t32] [] (N, am_ts T, I, L, am_rs r) Q) from ?_)
            refine am_E.run [224] 2000 (show (am_E S 107 (d + 5) 0 0 224 [.ref 0, .int x0, .int x1, .int x2, .int 5, .ref t32] [.int x2, .int x0, .ref t32, .ref 1, .ref 23] (N, am_ts T, I, L, am_rs r) Q) from ?_)
            refine am_E.go ⟨am_ki_I N T L r _, s_116s hw (fun q59 I60 hk => ⟨q59, I60, rfl, rfl, hk⟩), ?_⟩
            intro v h9 hv
            obtain ⟨q59, I60, rfl, rfl, hw⟩ := hv
            try dsimp only at hw
            refine am_E.run [] 2000 (show (if q59 = 0 then (True ∧ Q (some (.int 0)) (N, am_ts T, I60, L, am_rs r)) else (True ∧ Q (some (.int 1)) (N, am_ts T, I60, L, am_rs r))) from ?_)
            by_cases hc : q59 = 0
            · rw [if_pos hc] at hw ⊢
              exact ⟨trivial, hK _ _ hw⟩
            · rw [if_neg hc] at hw ⊢
              exact ⟨trivial, hK _ _ hw⟩
          rw [if_neg hc6] at hw
          have hd : (x1).toInt < 0 ∨ 6 < (x1).toInt := by
            have g0 := am_ine hc0
            have g1 := am_ine hc1
            have g2 := am_ine hc2
            have g3 := am_ine hc3
            have g4 := am_ine hc4
            have g5 := am_ine hc5
            have g6 := am_ine hc6
            change (x1).toInt ≠ 0 at g0
            change (x1).toInt ≠ 1 at g1
            change (x1).toInt ≠ 2 at g2
            change (x1).toInt ≠ 3 at g3
            change (x1).toInt ≠ 4 at g4
            change (x1).toInt ≠ 5 at g5
            change (x1).toInt ≠ 6 at g6
            omega
          refine am_E.go (show (if (x1).toInt < 0 ∨ 6 < (x1).toInt then (am_E S 107 (d + 5) 0 0 236 [.ref 0, .int x0, .int x1, .int x2, .int 5, .ref t32] [] (N, am_ts T, I, L, am_rs r) Q) else _) from ?_)
          rw [if_pos hd]
          refine am_E.run [] 2000 (show (True ∧ Q (some (.int (-1))) (N, am_ts T, I, L, am_rs r)) from ?_)
          exact ⟨trivial, hK _ _ hw⟩
