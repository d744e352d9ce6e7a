def lw_227_4 : Nat → Int32 → Int32 → am_I → (Int32 → Int32 → Prop) → Prop
  | 0, _, _, _, _ => False
  | n + 1, v1, v2, I, E0 =>
    if (I 66 29) ≤ v2 then
      E0 v1 v2
    else
      ¬ (v2 < 0 ∨ 400 ≤ Int32.toNatClampNeg v2) ∧
      if (I 79 (Int32.toNatClampNeg v2)) < 31 then
        lw_227_4 n v1 (v2 + 1) I E0
      else
        ¬ (v2 < 0 ∨ 400 ≤ Int32.toNatClampNeg v2) ∧
        lw_227_4 n (I 79 (Int32.toNatClampNeg v2)) (v2 + 1) I E0
set_option maxRecDepth 100000 in
theorem sl_227_4 {S : am_S} {d : Nat} {Q : am_Q} {N : Nat} {T : Nat → Nat × Nat} {I : am_I} {L : am_J} {r : Nat → Nat → Option Nat} {E0 : Int32 → Int32 → Prop} : ∀ (n : Nat) {v1 : Int32} {v2 : Int32}, lw_227_4 n v1 v2 I E0 → (∀ (o1 : Int32) (o2 : Int32), E0 o1 o2 → am_E S 227 (d + 0) 0 0 40 [.ref 66, .int o1, .int o2] [] (N, am_ts T, I, L, am_rs r) Q) → am_E S 227 (d + 0) 0 0 4 [.ref 66, .int v1, .int v2] [] (N, am_ts T, I, L, am_rs r) Q
  | 0, _, _, hw, _ => hw.elim
  | n + 1, v1, v2, hw, hE0 => by
    have ih := @sl_227_4 S d Q N T I L r E0 n
    unfold lw_227_4 at hw
    try dsimp only at hw
    refine am_E.run [4, 40] 2000 (show (if (I 66 29) ≤ v2 then (am_E S 227 (d + 0) 0 0 40 [.ref 66, .int v1, .int v2] [] (N, am_ts T, I, L, am_rs r) Q) else (if v2 < 0 ∨ 400 ≤ Int32.toNatClampNeg v2 then False else (if (I 79 (Int32.toNatClampNeg v2)) < 31 then (am_E S 227 (d + 0) 0 0 4 [.ref 66, .int v1, .int (v2 + 1)] [] (N, am_ts T, I, L, am_rs r) Q) else (if v2 < 0 ∨ 400 ≤ Int32.toNatClampNeg v2 then False else (am_E S 227 (d + 0) 0 0 4 [.ref 66, .int (I 79 (Int32.toNatClampNeg v2)), .int (v2 + 1)] [] (N, am_ts T, I, L, am_rs r) Q))))) from ?_)
    by_cases hc : (I 66 29) ≤ v2
    · rw [if_pos hc] at hw ⊢
      exact hE0 _ _ hw
    · rw [if_neg hc] at hw ⊢
      refine am_ifn hw.1 ?_
      replace hw := hw.2
      by_cases hc : (I 79 (Int32.toNatClampNeg v2)) < 31
      · rw [if_pos hc] at hw ⊢
        exact ih hw hE0
      · rw [if_neg hc] at hw ⊢
        refine am_ifn hw.1 ?_
        replace hw := hw.2
        exact ih hw hE0
/-- KeyKeepersModel.inner()I -/
def w_227 (I : am_I) (K : Int32 → Prop) : Prop :=
  ∃ n4, lw_227_4 n4 (-1) 0 I (fun o1 o2 =>
    K o1)
set_option maxRecDepth 100000 in
theorem s_227 {S : am_S} {d : Nat} {N : Nat} {T : Nat → Nat × Nat} {I : am_I} {L : am_J} {r : Nat → Nat → Option Nat} {Q : am_Q} {K : Int32 → Prop} (hw : w_227 I K) (hK : ∀ (q : Int32), K q → Q (some (.int q)) (N, am_ts T, I, L, am_rs r)) : am_E S 227 (d + 0) 0 0 0 [.ref 66, am_jk, am_jk] [] (N, am_ts T, I, L, am_rs r) Q := by
  unfold w_227 at hw
  try dsimp only at hw
  refine am_E.run [4] 2000 (show (am_E S 227 (d + 0) 0 0 4 [.ref 66, .int (-1), .int 0] [] (N, am_ts T, I, L, am_rs r) Q) from ?_)
  obtain ⟨n4, hw⟩ := hw
  refine sl_227_4 n4 hw (fun o1 o2 hw => ?_)
  · try dsimp only at hw
    refine am_E.run [] 2000 (show (True ∧ Q (some (.int o1)) (N, am_ts T, I, L, am_rs r)) from ?_)
    exact ⟨trivial, hK _ hw⟩
def lw_228_7 : Nat → Int32 → am_I → (Int32 → Prop) → Prop
  | 0, _, _, _ => False
  | n + 1, v1, I, E0 =>
    if v1 < 0 then
      E0 v1
    else
      ¬ (v1 < 0 ∨ 400 ≤ Int32.toNatClampNeg v1) ∧
      if (f_182 (Int32.toInt64 (I 79 (Int32.toNatClampNeg v1))) 20 24) = 0 then
        E0 v1
      else
        lw_228_7 n (v1 + (-1)) I E0
set_option maxRecDepth 100000 in
theorem sl_228_7 {S : am_S} {d : Nat} {Q : am_Q} {N : Nat} {T : Nat → Nat × Nat} {I : am_I} {L : am_J} {r : Nat → Nat → Option Nat} {E0 : Int32 → Prop} : ∀ (n : Nat) {v1 : Int32}, lw_228_7 n v1 I E0 → (∀ (o1 : Int32), E0 o1 → am_E S 228 (d + 1) 0 0 36 [.ref 66, .int o1] [] (N, am_ts T, I, L, am_rs r) Q) → am_E S 228 (d + 1) 0 0 7 [.ref 66, .int v1] [] (N, am_ts T, I, L, am_rs r) Q
  | 0, _, hw, _ => hw.elim
  | n + 1, v1, hw, hE0 => by
    have ih := @sl_228_7 S d Q N T I L r E0 n
    unfold lw_228_7 at hw
    try dsimp only at hw
    refine am_E.run [24, 36] 2000 (show (if v1 < 0 then (am_E S 228 (d + 1) 0 0 36 [.ref 66, .int v1] [] (N, am_ts T, I, L, am_rs r) Q) else (if v1 < 0 ∨ 400 ≤ Int32.toNatClampNeg v1 then False else (am_E S 228 (d + 1) 0 0 24 [.ref 66, .int v1] [.long 24, .long 20, .long (Int32.toInt64 (I 79 (Int32.toNatClampNeg v1)))] (N, am_ts T, I, L, am_rs r) Q))) from ?_)
    by_cases hc : v1 < 0
    · rw [if_pos hc] at hw ⊢
      exact hE0 _ hw
    · rw [if_neg hc] at hw ⊢
      refine am_ifn hw.1 ?_
      replace hw := hw.2
      refine am_E.go ⟨fun v h9 => v = some (.int (f_182 (Int32.toInt64 (I 79 (Int32.toNatClampNeg v1))) 20 24)) ∧ h9 = (N, am_ts T, I, L, am_rs r), s_182 ⟨rfl, rfl⟩, ?_⟩
      intro v h9 hv
      obtain ⟨rfl, rfl⟩ := hv
      refine am_E.run [7, 36] 2000 (show (if (f_182 (Int32.toInt64 (I 79 (Int32.toNatClampNeg v1))) 20 24) = 0 then (am_E S 228 (d + 1) 0 0 36 [.ref 66, .int v1] [] (N, am_ts T, I, L, am_rs r) Q) else (am_E S 228 (d + 1) 0 0 7 [.ref 66, .int (v1 + (-1))] [] (N, am_ts T, I, L, am_rs r) Q)) from ?_)
      by_cases hc : (f_182 (Int32.toInt64 (I 79 (Int32.toNatClampNeg v1))) 20 24) = 0
      · rw [if_pos hc] at hw ⊢
        exact hE0 _ hw
      · rw [if_neg hc] at hw ⊢
        exact ih hw hE0
/-- KeyKeepersModel.isCompared()Z -/
def w_228 (I : am_I) (K : Int32 → Prop) : Prop :=
  ∃ n7, lw_228_7 n7 ((I 66 29) - 1) I (fun o1 =>
    if o1 < 0 then
      K 0
    else
      ¬ (o1 < 0 ∨ 400 ≤ Int32.toNatClampNeg o1) ∧
      if (f_182 (Int32.toInt64 (I 79 (Int32.toNatClampNeg o1))) 25 27) = 0 then
        K 0
      else
        K 1)
set_option maxRecDepth 100000 in
theorem s_228 {S : am_S} {d : Nat} {N : Nat} {T : Nat → Nat × Nat} {I : am_I} {L : am_J} {r : Nat → Nat → Option Nat} {Q : am_Q} {K : Int32 → Prop} (hw : w_228 I K) (hK : ∀ (q : Int32), K q → Q (some (.int q)) (N, am_ts T, I, L, am_rs r)) : am_E S 228 (d + 1) 0 0 0 [.ref 66, am_jk] [] (N, am_ts T, I, L, am_rs r) Q := by
  unfold w_228 at hw
  try dsimp only at hw
  refine am_E.run [7] 2000 (show (am_E S 228 (d + 1) 0 0 7 [.ref 66, .int ((I 66 29) - 1)] [] (N, am_ts T, I, L, am_rs r) Q) from ?_)
  obtain ⟨n7, hw⟩ := hw
  refine sl_228_7 n7 hw (fun o1 hw => ?_)
  · try dsimp only at hw
    refine am_E.run [53] 2000 (show (if o1 < 0 then (((0 : Int32) = 0 ∨ (0 : Int32) = 1) ∧ Q (some (.int 0)) (N, am_ts T, I, L, am_rs r)) else (if o1 < 0 ∨ 400 ≤ Int32.toNatClampNeg o1 then False else (am_E S 228 (d + 1) 0 0 53 [.ref 66, .int o1] [.long 27, .long 25, .long (Int32.toInt64 (I 79 (Int32.toNatClampNeg o1)))] (N, am_ts T, I, L, am_rs r) Q))) from ?_)
    by_cases hc : o1 < 0
    · rw [if_pos hc] at hw ⊢
      exact ⟨Or.inl rfl, hK _ hw⟩
    · rw [if_neg hc] at hw ⊢
      refine am_ifn hw.1 ?_
      replace hw := hw.2
      refine am_E.go ⟨fun v h9 => v = some (.int (f_182 (Int32.toInt64 (I 79 (Int32.toNatClampNeg o1))) 25 27)) ∧ h9 = (N, am_ts T, I, L, am_rs r), s_182 ⟨rfl, rfl⟩, ?_⟩
      intro v h9 hv
      obtain ⟨rfl, rfl⟩ := hv
      refine am_E.run [] 2000 (show (if (f_182 (Int32.toInt64 (I 79 (Int32.toNatClampNeg o1))) 25 27) = 0 then (((0 : Int32) = 0 ∨ (0 : Int32) = 1) ∧ Q (some (.int 0)) (N, am_ts T, I, L, am_rs r)) else (((1 : Int32) = 0 ∨ (1 : Int32) = 1) ∧ Q (some (.int 1)) (N, am_ts T, I, L, am_rs r))) from ?_)
      by_cases hc : (f_182 (Int32.toInt64 (I 79 (Int32.toNatClampNeg o1))) 25 27) = 0
      · rw [if_pos hc] at hw ⊢
        exact ⟨Or.inl rfl, hK _ hw⟩
      · rw [if_neg hc] at hw ⊢
        exact ⟨Or.inr rfl, hK _ hw⟩
/-- KeyKeepersModel.isLaw(I)Z -/
def f_232 (x0 : Int32) (I : am_I) : Int32 :=
  if x0 = (-1) then
    1
  else
    if (f_182 (Int32.toInt64 x0) 0 ((Int32.toInt64 (I 68 3)) - 1)) = 0 then
      0
    else
      1
set_option maxRecDepth 100000 in
theorem s_232 {S : am_S} {d : Nat} {N : Nat} {T : Nat → Nat × Nat} {I : am_I} {L : am_J} {r : Nat → Nat → Option Nat} {Q : am_Q} {x0 : Int32} (hq : Q (some (.int (f_232 x0 I))) (N, am_ts T, I, L, am_rs r)) : am_E S 232 (d + 1) 0 0 0 [.ref 66, .int x0] [] (N, am_ts T, I, L, am_rs r) Q := by
  unfold f_232 at hq
  try dsimp only at hq
  refine am_E.run [17] 2000 (show (if x0 = (-1) then (((1 : Int32) = 0 ∨ (1 : Int32) = 1) ∧ Q (some (.int 1)) (N, am_ts T, I, L, am_rs r)) else (am_E S 232 (d + 1) 0 0 17 [.ref 66, .int x0] [.long ((Int32.toInt64 (I 68 3)) - 1), .long 0, .long (Int32.toInt64 x0)] (N, am_ts T, I, L, am_rs r) Q)) from ?_)
  by_cases hc : x0 = (-1)
  · rw [if_pos hc] at hq ⊢
    exact ⟨Or.inr rfl, hq⟩
  · rw [if_neg hc] at hq ⊢
    refine am_E.go ⟨fun v h9 => v = some (.int (f_182 (Int32.toInt64 x0) 0 ((Int32.toInt64 (I 68 3)) - 1))) ∧ h9 = (N, am_ts T, I, L, am_rs r), s_182 ⟨rfl, rfl⟩, ?_⟩
    intro v h9 hv
    obtain ⟨rfl, rfl⟩ := hv
    refine am_E.run [] 2000 (show (if (f_182 (Int32.toInt64 x0) 0 ((Int32.toInt64 (I 68 3)) - 1)) = 0 then (((0 : Int32) = 0 ∨ (0 : Int32) = 1) ∧ Q (some (.int 0)) (N, am_ts T, I, L, am_rs r)) else (((1 : Int32) = 0 ∨ (1 : Int32) = 1) ∧ Q (some (.int 1)) (N, am_ts T, I, L, am_rs r))) from ?_)
    by_cases hc : (f_182 (Int32.toInt64 x0) 0 ((Int32.toInt64 (I 68 3)) - 1)) = 0
    · rw [if_pos hc] at hq ⊢
      exact ⟨Or.inl rfl, hq⟩
    · rw [if_neg hc] at hq ⊢
      exact ⟨Or.inr rfl, hq⟩
theorem b_232 {x0 : Int32} {I : am_I} : (f_232 x0 I) = 0 ∨ (f_232 x0 I) = 1 := by
  unfold f_232
  (repeat' split) <;> first | exact Or.inl rfl | exact Or.inr rfl
def lw_236_4 : Nat → Int32 → Int32 → Int32 → (Int32 → Int32 → Prop) → Prop
  | 0, _, _, _, _ => False
  | n + 1, v0, v1, v2, E0 =>
    if (12 : Int32) ≤ v2 then
      E0 v1 v2
    else
      lw_236_4 n v0 (v1 + ((v0 >>> (v2 &&& 31)) &&& 1)) (v2 + 1) E0
set_option maxRecDepth 100000 in
theorem sl_236_4 {S : am_S} {d : Nat} {Q : am_Q} {N : Nat} {T : Nat → Nat × Nat} {I : am_I} {L : am_J} {r : Nat → Nat → Option Nat} {E0 : Int32 → Int32 → Prop} : ∀ (n : Nat) {v0 : Int32} {v1 : Int32} {v2 : Int32}, lw_236_4 n v0 v1 v2 E0 → (∀ (o1 : Int32) (o2 : Int32), E0 o1 o2 → am_E S 236 (d + 0) 0 0 24 [.int v0, .int o1, .int o2] [] (N, am_ts T, I, L, am_rs r) Q) → am_E S 236 (d + 0) 0 0 4 [.int v0, .int v1, .int v2] [] (N, am_ts T, I, L, am_rs r) Q
  | 0, _, _, _, hw, _ => hw.elim
  | n + 1, v0, v1, v2, hw, hE0 => by
    have ih := @sl_236_4 S d Q N T I L r E0 n
    unfold lw_236_4 at hw
    try dsimp only at hw
    refine am_E.run [4, 24] 2000 (show (if (12 : Int32) ≤ v2 then (am_E S 236 (d + 0) 0 0 24 [.int v0, .int v1, .int v2] [] (N, am_ts T, I, L, am_rs r) Q) else (am_E S 236 (d + 0) 0 0 4 [.int v0, .int (v1 + ((v0 >>> (v2 &&& 31)) &&& 1)), .int (v2 + 1)] [] (N, am_ts T, I, L, am_rs r) Q)) from ?_)
    by_cases hc : (12 : Int32) ≤ v2
    · rw [if_pos hc] at hw ⊢
      exact hE0 _ _ hw
    · rw [if_neg hc] at hw ⊢
      exact ih hw hE0
/-- KeyKeepersModel.ones(I)I -/
def w_236 (x0 : Int32) (K : Int32 → Prop) : Prop :=
  ∃ n4, lw_236_4 n4 x0 0 0 (fun o1 o2 =>
    K o1)
set_option maxRecDepth 100000 in
theorem s_236 {S : am_S} {d : Nat} {N : Nat} {T : Nat → Nat × Nat} {I : am_I} {L : am_J} {r : Nat → Nat → Option Nat} {Q : am_Q} {x0 : Int32} {K : Int32 → Prop} (hw : w_236 x0 K) (hK : ∀ (q : Int32), K q → Q (some (.int q)) (N, am_ts T, I, L, am_rs r)) : am_E S 236 (d + 0) 0 0 0 [.int x0, am_jk, am_jk] [] (N, am_ts T, I, L, am_rs r) Q := by
  unfold w_236 at hw
  try dsimp only at hw
  refine am_E.run [4] 2000 (show (am_E S 236 (d + 0) 0 0 4 [.int x0, .int 0, .int 0] [] (N, am_ts T, I, L, am_rs r) Q) from ?_)
  obtain ⟨n4, hw⟩ := hw
  refine sl_236_4 n4 hw (fun o1 o2 hw => ?_)
  · try dsimp only at hw
    refine am_E.run [] 2000 (show (True ∧ Q (some (.int o1)) (N, am_ts T, I, L, am_rs r)) from ?_)
    exact ⟨trivial, hK _ hw⟩
/-- KeyKeepersModel.term(I)I -/
def w_237 (x0 : Int32) (I : am_I) (K : Int32 → Prop) : Prop :=
  ¬ ((5 + x0) < 0 ∨ 5510 ≤ Int32.toNatClampNeg (5 + x0)) ∧
  K (I 68 (Int32.toNatClampNeg (5 + x0)))
set_option maxRecDepth 100000 in
theorem s_237 {S : am_S} {d : Nat} {N : Nat} {T : Nat → Nat × Nat} {I : am_I} {L : am_J} {r : Nat → Nat → Option Nat} {Q : am_Q} {x0 : Int32} {K : Int32 → Prop} (hw : w_237 x0 I K) (hK : ∀ (q : Int32), K q → Q (some (.int q)) (N, am_ts T, I, L, am_rs r)) : am_E S 237 (d + 0) 0 0 0 [.ref 66, .int x0] [] (N, am_ts T, I, L, am_rs r) Q := by
  unfold w_237 at hw
  try dsimp only at hw
  refine am_E.run [] 2000 (show (if (5 + x0) < 0 ∨ 5510 ≤ Int32.toNatClampNeg (5 + x0) then False else (True ∧ Q (some (.int (I 68 (Int32.toNatClampNeg (5 + x0))))) (N, am_ts T, I, L, am_rs r))) from ?_)
  refine am_ifn hw.1 ?_
  replace hw := hw.2
  exact ⟨trivial, hK _ hw⟩
/-- KeyKeepersModel.reckon(IJJ)J -/
def w_240 (x0 : Int32) (x1 : Int64) (x2 : Int64) (I : am_I) (K : Int64 → am_I → Prop) : Prop :=
  if x0 = 20 then
    K (x1 + x2) I
  else
  if x0 = 21 then
    K (x1 - x2) I
  else
  if x0 = 22 then
    K (x1 * x2) I
  else
  if x0 = 23 then
    if (lg_cmp x2 0) = 0 then
      if 1 = 0 then
        ¬ (x2 = 0) ∧
        K (x1 / x2) (am_u I 66 38 1)
      else
        K 0 (am_u I 66 38 1)
    else
      if 0 = 0 then
        ¬ (x2 = 0) ∧
        K (x1 / x2) (am_u I 66 38 0)
      else
        K 0 (am_u I 66 38 0)
  else
  if x0 = 24 then
    if (lg_cmp x2 0) = 0 then
      if 1 = 0 then
        ¬ (x2 = 0) ∧
        K (x1 - x1 / x2 * x2) (am_u I 66 38 1)
      else
        K 0 (am_u I 66 38 1)
    else
      if 0 = 0 then
        ¬ (x2 = 0) ∧
        K (x1 - x1 / x2 * x2) (am_u I 66 38 0)
      else
        K 0 (am_u I 66 38 0)
  else
  if x0 = 25 then
    if (0 : Int32) ≤ (lg_cmp x1 x2) then
      K 0 I
    else
      K 1 I
  else
  if x0 = 26 then
    if (lg_cmp x1 x2) ≤ 0 then
      K 0 I
    else
      K 1 I
  else
  if (lg_cmp x1 x2) = 0 then
    K 1 I
  else
    K 0 I
set_option maxHeartbeats 6000000 in
set_option maxRecDepth 100000 in
theorem s_240 {S : am_S} {d : Nat} {N : Nat} {T : Nat → Nat × Nat} {I : am_I} {L : am_J} {r : Nat → Nat → Option Nat} {Q : am_Q} {x0 : Int32} {x1 : Int64} {x2 : Int64} {K : Int64 → am_I → Prop} (hw : w_240 x0 x1 x2 I K) (hK : ∀ (q : Int64) (I1 : am_I), K q I1 → Q (some (.long q)) (N, am_ts T, I1, L, am_rs r)) : am_E S 240 (d + 0) 0 0 0 [.ref 66, .int x0, .long x1, am_jk, .long x2, am_jk] [] (N, am_ts T, I, L, am_rs r) Q := by
  unfold w_240 at hw
  try dsimp only at hw
  refine am_E.run [1] 2000 (show (am_E S 240 (d + 0) 0 0 1 [.ref 66, .int x0, .long x1, am_jk, .long x2, am_jk] [.int x0] (N, am_ts T, I, L, am_rs r) Q) from ?_)
  by_cases hc0 : x0 = 20
  · rw [if_pos hc0] at hw
    refine am_E.swap (k := 20) hc0 ?_
    refine am_E.go (show (am_E S 240 (d + 0) 0 0 44 [.ref 66, .int x0, .long x1, am_jk, .long x2, am_jk] [] (N, am_ts T, I, L, am_rs r) Q) from ?_)
    refine am_E.run [] 2000 (show (True ∧ Q (some (.long (x1 + x2))) (N, am_ts T, I, L, am_rs r)) from ?_)
    exact ⟨trivial, hK _ _ hw⟩
  rw [if_neg hc0] at hw
  by_cases hc1 : x0 = 21
  · rw [if_pos hc1] at hw
    refine am_E.swap (k := 21) hc1 ?_
    refine am_E.go (show (am_E S 240 (d + 0) 0 0 49 [.ref 66, .int x0, .long x1, am_jk, .long x2, am_jk] [] (N, am_ts T, I, L, am_rs r) Q) from ?_)
    refine am_E.run [] 2000 (show (True ∧ Q (some (.long (x1 - x2))) (N, am_ts T, I, L, am_rs r)) from ?_)
    exact ⟨trivial, hK _ _ hw⟩
  rw [if_neg hc1] at hw
  by_cases hc2 : x0 = 22
  · rw [if_pos hc2] at hw
    refine am_E.swap (k := 22) hc2 ?_
    refine am_E.go (show (am_E S 240 (d + 0) 0 0 54 [.ref 66, .int x0, .long x1, am_jk, .long x2, am_jk] [] (N, am_ts T, I, L, am_rs r) Q) from ?_)
    refine am_E.run [] 2000 (show (True ∧ Q (some (.long (x1 * x2))) (N, am_ts T, I, L, am_rs r)) from ?_)
    exact ⟨trivial, hK _ _ hw⟩
  rw [if_neg hc2] at hw
  by_cases hc3 : x0 = 23
  · rw [if_pos hc3] at hw
    refine am_E.swap (k := 23) hc3 ?_
    refine am_E.go (show (am_E S 240 (d + 0) 0 0 59 [.ref 66, .int x0, .long x1, am_jk, .long x2, am_jk] [] (N, am_ts T, I, L, am_rs r) Q) from ?_)
    refine am_E.run [] 2000 (show (if (lg_cmp x2 0) = 0 then (if 1 = 0 then (if x2 = 0 then False else (True ∧ Q (some (.long (x1 / x2))) (N, am_ts T, (am_u I 66 38 1), L, am_rs r))) else (True ∧ Q (some (.long 0)) (N, am_ts T, (am_u I 66 38 1), L, am_rs r))) else (if 0 = 0 then (if x2 = 0 then False else (True ∧ Q (some (.long (x1 / x2))) (N, am_ts T, (am_u I 66 38 0), L, am_rs r))) else (True ∧ Q (some (.long 0)) (N, am_ts T, (am_u I 66 38 0), L, am_rs r)))) from ?_)
    by_cases hc : (lg_cmp x2 0) = 0
    · rw [if_pos hc] at hw ⊢
      by_cases hc : 1 = 0
      · rw [if_pos hc] at hw ⊢
        refine am_ifn hw.1 ?_
        replace hw := hw.2
        exact ⟨trivial, hK _ _ hw⟩
      · rw [if_neg hc] at hw ⊢
        exact ⟨trivial, hK _ _ hw⟩
    · rw [if_neg hc] at hw ⊢
      by_cases hc : 0 = 0
      · rw [if_pos hc] at hw ⊢
        refine am_ifn hw.1 ?_
        replace hw := hw.2
        exact ⟨trivial, hK _ _ hw⟩
      · rw [if_neg hc] at hw ⊢
        exact ⟨trivial, hK _ _ hw⟩
  rw [if_neg hc3] at hw
  by_cases hc4 : x0 = 24
  · rw [if_pos hc4] at hw
    refine am_E.swap (k := 24) hc4 ?_
    refine am_E.go (show (am_E S 240 (d + 0) 0 0 91 [.ref 66, .int x0, .long x1, am_jk, .long x2, am_jk] [] (N, am_ts T, I, L, am_rs r) Q) from ?_)
    refine am_E.run [] 2000 (show (if (lg_cmp x2 0) = 0 then (if 1 = 0 then (if x2 = 0 then False else (True ∧ Q (some (.long (x1 - x1 / x2 * x2))) (N, am_ts T, (am_u I 66 38 1), L, am_rs r))) else (True ∧ Q (some (.long 0)) (N, am_ts T, (am_u I 66 38 1), L, am_rs r))) else (if 0 = 0 then (if x2 = 0 then False else (True ∧ Q (some (.long (x1 - x1 / x2 * x2))) (N, am_ts T, (am_u I 66 38 0), L, am_rs r))) else (True ∧ Q (some (.long 0)) (N, am_ts T, (am_u I 66 38 0), L, am_rs r)))) from ?_)
    by_cases hc : (lg_cmp x2 0) = 0
    · rw [if_pos hc] at hw ⊢
      by_cases hc : 1 = 0
      · rw [if_pos hc] at hw ⊢
        refine am_ifn hw.1 ?_
        replace hw := hw.2
        exact ⟨trivial, hK _ _ hw⟩
      · rw [if_neg hc] at hw ⊢
        exact ⟨trivial, hK _ _ hw⟩
    · rw [if_neg hc] at hw ⊢
      by_cases hc : 0 = 0
      · rw [if_pos hc] at hw ⊢
        refine am_ifn hw.1 ?_
        replace hw := hw.2
        exact ⟨trivial, hK _ _ hw⟩
      · rw [if_neg hc] at hw ⊢
        exact ⟨trivial, hK _ _ hw⟩
  rw [if_neg hc4] at hw
  by_cases hc5 : x0 = 25
  · rw [if_pos hc5] at hw
    refine am_E.swap (k := 25) hc5 ?_
    refine am_E.go (show (am_E S 240 (d + 0) 0 0 123 [.ref 66, .int x0, .long x1, am_jk, .long x2, am_jk] [] (N, am_ts T, I, L, am_rs r) Q) from ?_)
    refine am_E.run [] 2000 (show (if (0 : Int32) ≤ (lg_cmp x1 x2) then (True ∧ Q (some (.long 0)) (N, am_ts T, I, L, am_rs r)) else (True ∧ Q (some (.long 1)) (N, am_ts T, I, L, am_rs r))) from ?_)
    by_cases hc : (0 : Int32) ≤ (lg_cmp x1 x2)
    · rw [if_pos hc] at hw ⊢
      exact ⟨trivial, hK _ _ hw⟩
    · rw [if_neg hc] at hw ⊢
      exact ⟨trivial, hK _ _ hw⟩
  rw [if_neg hc5] at hw
  by_cases hc6 : x0 = 26
  · rw [if_pos hc6] at hw
    refine am_E.swap (k := 26) hc6 ?_
    refine am_E.go (show (am_E S 240 (d + 0) 0 0 136 [.ref 66, .int x0, .long x1, am_jk, .long x2, am_jk] [] (N, am_ts T, I, L, am_rs r) Q) from ?_)
    refine am_E.run [] 2000 (show (if (lg_cmp x1 x2) ≤ 0 then (True ∧ Q (some (.long 0)) (N, am_ts T, I, L, am_rs r)) else (True ∧ Q (some (.long 1)) (N, am_ts T, I, L, am_rs r))) from ?_)
    by_cases hc : (lg_cmp x1 x2) ≤ 0
    · rw [if_pos hc] at hw ⊢
      exact ⟨trivial, hK _ _ hw⟩
    · rw [if_neg hc] at hw ⊢
      exact ⟨trivial, hK _ _ hw⟩
  rw [if_neg hc6] at hw
  have hd : (x0).toInt < 20 ∨ 26 < (x0).toInt := by
    have g0 := am_ine hc0
    have g1 := am_ine hc1
    have g2 := am_ine hc2
    have g3 := am_ine hc3
    have g4 := am_ine hc4
    have g5 := am_ine hc5
    have g6 := am_ine hc6
    change (x0).toInt ≠ 20 at g0
    change (x0).toInt ≠ 21 at g1
    change (x0).toInt ≠ 22 at g2
    change (x0).toInt ≠ 23 at g3
    change (x0).toInt ≠ 24 at g4
    change (x0).toInt ≠ 25 at g5
    change (x0).toInt ≠ 26 at g6
    omega
  refine am_E.go (show (if (x0).toInt < 20 ∨ 26 < (x0).toInt then (am_E S 240 (d + 0) 0 0 149 [.ref 66, .int x0, .long x1, am_jk, .long x2, am_jk] [] (N, am_ts T, I, L, am_rs r) Q) else _) from ?_)
  rw [if_pos hd]
  refine am_E.run [] 2000 (show (if (lg_cmp x1 x2) = 0 then (True ∧ Q (some (.long 1)) (N, am_ts T, I, L, am_rs r)) else (True ∧ Q (some (.long 0)) (N, am_ts T, I, L, am_rs r))) from ?_)
  by_cases hc : (lg_cmp x1 x2) = 0
  · rw [if_pos hc] at hw ⊢
    exact ⟨trivial, hK _ _ hw⟩
  · rw [if_neg hc] at hw ⊢
    exact ⟨trivial, hK _ _ hw⟩
/-- KeyKeepersModel.within(JII)I -/
def f_241 (x0 : Int64) (x1 : Int32) (x2 : Int32) : Int32 :=
  if (0 : Int32) ≤ (lg_cmp x0 (Int32.toInt64 x1)) then
    if (lg_cmp x0 (Int32.toInt64 x2)) ≤ 0 then
      (Int64.toInt32 x0)
    else
      x2
  else
    x1
set_option maxRecDepth 100000 in
theorem s_241 {S : am_S} {d : Nat} {N : Nat} {T : Nat → Nat × Nat} {I : am_I} {L : am_J} {r : Nat → Nat → Option Nat} {Q : am_Q} {x0 : Int64} {x1 : Int32} {x2 : Int32} (hq : Q (some (.int (f_241 x0 x1 x2))) (N, am_ts T, I, L, am_rs r)) : am_E S 241 (d + 0) 0 0 0 [.long x0, am_jk, .int x1, .int x2] [] (N, am_ts T, I, L, am_rs r) Q := by
  unfold f_241 at hq
  try dsimp only at hq
  refine am_E.run [] 2000 (show (if (0 : Int32) ≤ (lg_cmp x0 (Int32.toInt64 x1)) then (if (lg_cmp x0 (Int32.toInt64 x2)) ≤ 0 then (True ∧ Q (some (.int (Int64.toInt32 x0))) (N, am_ts T, I, L, am_rs r)) else (True ∧ Q (some (.int x2)) (N, am_ts T, I, L, am_rs r))) else (True ∧ Q (some (.int x1)) (N, am_ts T, I, L, am_rs r))) from ?_)
  by_cases hc : (0 : Int32) ≤ (lg_cmp x0 (Int32.toInt64 x1))
  · rw [if_pos hc] at hq ⊢
    by_cases hc : (lg_cmp x0 (Int32.toInt64 x2)) ≤ 0
    · rw [if_pos hc] at hq ⊢
      exact ⟨trivial, hq⟩
    · rw [if_neg hc] at hq ⊢
      exact ⟨trivial, hq⟩
  · rw [if_neg hc] at hq ⊢
    exact ⟨trivial, hq⟩
/-- KeyKeepersModel.is(II)Z -/
def f_248 (x0 : Int32) (x1 : Int32) : Int32 :=
  if ((x0 >>> (x1 &&& 31)) &&& 1) = 1 then
    1
  else
    0
set_option maxRecDepth 100000 in
theorem s_248 {S : am_S} {d : Nat} {N : Nat} {T : Nat → Nat × Nat} {I : am_I} {L : am_J} {r : Nat → Nat → Option Nat} {Q : am_Q} {x0 : Int32} {x1 : Int32} (hq : Q (some (.int (f_248 x0 x1))) (N, am_ts T, I, L, am_rs r)) : am_E S 248 (d + 0) 0 0 0 [.int x0, .int x1] [] (N, am_ts T, I, L, am_rs r) Q := by
  unfold f_248 at hq
  try dsimp only at hq
  refine am_E.run [] 2000 (show (if ((x0 >>> (x1 &&& 31)) &&& 1) = 1 then (((1 : Int32) = 0 ∨ (1 : Int32) = 1) ∧ Q (some (.int 1)) (N, am_ts T, I, L, am_rs r)) else (((0 : Int32) = 0 ∨ (0 : Int32) = 1) ∧ Q (some (.int 0)) (N, am_ts T, I, L, am_rs r))) from ?_)
  by_cases hc : ((x0 >>> (x1 &&& 31)) &&& 1) = 1
  · rw [if_pos hc] at hq ⊢
    exact ⟨Or.inr rfl, hq⟩
  · rw [if_neg hc] at hq ⊢
    exact ⟨Or.inl rfl, hq⟩
theorem b_248 {x0 : Int32} {x1 : Int32} : (f_248 x0 x1) = 0 ∨ (f_248 x0 x1) = 1 := by
  unfold f_248
  (repeat' split) <;> first | exact Or.inl rfl | exact Or.inr rfl
/-- KeyKeepersModel.trusts(II)Z -/
def w_249 (x0 : Int32) (x1 : Int32) (I : am_I) (K : Int32 → Prop) : Prop :=
  ¬ ((42 + x0) < 0 ∨ 5510 ≤ Int32.toNatClampNeg (42 + x0)) ∧
  ((f_248 (I 68 (Int32.toNatClampNeg (42 + x0))) x1) = 0 ∨ (f_248 (I 68 (Int32.toNatClampNeg (42 + x0))) x1) = 1) ∧ K (f_248 (I 68 (Int32.toNatClampNeg (42 + x0))) x1)
set_option maxRecDepth 100000 in
theorem s_249 {S : am_S} {d : Nat} {N : Nat} {T : Nat → Nat × Nat} {I : am_I} {L : am_J} {r : Nat → Nat → Option Nat} {Q : am_Q} {x0 : Int32} {x1 : Int32} {K : Int32 → Prop} (hw : w_249 x0 x1 I K) (hK : ∀ (q : Int32), K q → Q (some (.int q)) (N, am_ts T, I, L, am_rs r)) : am_E S 249 (d + 1) 0 0 0 [.ref 66, .int x0, .int x1] [] (N, am_ts T, I, L, am_rs r) Q := by
  unfold w_249 at hw
  try dsimp only at hw
  refine am_E.run [10] 2000 (show (if (42 + x0) < 0 ∨ 5510 ≤ Int32.toNatClampNeg (42 + x0) then False else (am_E S 249 (d + 1) 0 0 10 [.ref 66, .int x0, .int x1] [.int x1, .int (I 68 (Int32.toNatClampNeg (42 + x0)))] (N, am_ts T, I, L, am_rs r) Q)) from ?_)
  refine am_ifn hw.1 ?_
  replace hw := hw.2
  refine am_E.go ⟨fun v h9 => v = some (.int (f_248 (I 68 (Int32.toNatClampNeg (42 + x0))) x1)) ∧ h9 = (N, am_ts T, I, L, am_rs r), s_248 ⟨rfl, rfl⟩, ?_⟩
  intro v h9 hv
  obtain ⟨rfl, rfl⟩ := hv
  refine am_E.run [] 2000 (show (((f_248 (I 68 (Int32.toNatClampNeg (42 + x0))) x1) = 0 ∨ (f_248 (I 68 (Int32.toNatClampNeg (42 + x0))) x1) = 1) ∧ Q (some (.int (f_248 (I 68 (Int32.toNatClampNeg (42 + x0))) x1))) (N, am_ts T, I, L, am_rs r)) from ?_)
  exact ⟨hw.1, hK _ hw.2⟩
/-- KeyKeepersModel.ofDoor(II)I -/
def w_250 (x0 : Int32) (x1 : Int32) (I : am_I) (K : Int32 → Prop) : Prop :=
  ¬ (((58 + (3 * x0)) + x1) < 0 ∨ 5510 ≤ Int32.toNatClampNeg ((58 + (3 * x0)) + x1)) ∧
  K (I 68 (Int32.toNatClampNeg ((58 + (3 * x0)) + x1)))
set_option maxRecDepth 100000 in
theorem s_250 {S : am_S} {d : Nat} {N : Nat} {T : Nat → Nat × Nat} {I : am_I} {L : am_J} {r : Nat → Nat → Option Nat} {Q : am_Q} {x0 : Int32} {x1 : Int32} {K : Int32 → Prop} (hw : w_250 x0 x1 I K) (hK : ∀ (q : Int32), K q → Q (some (.int q)) (N, am_ts T, I, L, am_rs r)) : am_E S 250 (d + 0) 0 0 0 [.ref 66, .int x0, .int x1] [] (N, am_ts T, I, L, am_rs r) Q := by
  unfold w_250 at hw
  try dsimp only at hw
  refine am_E.run [] 2000 (show (if ((58 + (3 * x0)) + x1) < 0 ∨ 5510 ≤ Int32.toNatClampNeg ((58 + (3 * x0)) + x1) then False else (True ∧ Q (some (.int (I 68 (Int32.toNatClampNeg ((58 + (3 * x0)) + x1))))) (N, am_ts T, I, L, am_rs r))) from ?_)
  refine am_ifn hw.1 ?_
  replace hw := hw.2
  exact ⟨trivial, hK _ hw⟩
/-- KeyKeepersModel.isAt(II)Z -/
def w_254 (x0 : Int32) (x1 : Int32) (I : am_I) (K : Int32 → Prop) : Prop :=
  w_250 x1 0 I (fun q1 =>
    if q1 = x0 then
      K 1
    else
      w_250 x1 1 I (fun q2 =>
        if q2 = x0 then
          K 1
        else
          K 0))
set_option maxRecDepth 100000 in
theorem s_254 {S : am_S} {d : Nat} {N : Nat} {T : Nat → Nat × Nat} {I : am_I} {L : am_J} {r : Nat → Nat → Option Nat} {Q : am_Q} {x0 : Int32} {x1 : Int32} {K : Int32 → Prop} (hw : w_254 x0 x1 I K) (hK : ∀ (q : Int32), K q → Q (some (.int q)) (N, am_ts T, I, L, am_rs r)) : am_E S 254 (d + 1) 0 0 0 [.ref 66, .int x0, .int x1] [] (N, am_ts T, I, L, am_rs r) Q := by
  unfold w_254 at hw
  try dsimp only at hw
  refine am_E.run [3] 2000 (show (am_E S 254 (d + 1) 0 0 3 [.ref 66, .int x0, .int x1] [.int 0, .int x1, .ref 66] (N, am_ts T, I, L, am_rs r) Q) from ?_)
  refine am_E.go ⟨am_ki_ N T I L r _, s_250 hw (fun q1 hk => ⟨q1, rfl, rfl, hk⟩), ?_⟩
  intro v h9 hv
  obtain ⟨q1, rfl, rfl, hw⟩ := hv
  try dsimp only at hw
  refine am_E.run [13] 2000 (show (if q1 = x0 then (((1 : Int32) = 0 ∨ (1 : Int32) = 1) ∧ Q (some (.int 1)) (N, am_ts T, I, L, am_rs r)) else (am_E S 254 (d + 1) 0 0 13 [.ref 66, .int x0, .int x1] [.int 1, .int x1, .ref 66] (N, am_ts T, I, L, am_rs r) Q)) from ?_)
  by_cases hc : q1 = x0
  · rw [if_pos hc] at hw ⊢
    exact ⟨Or.inr rfl, hK _ hw⟩
  · rw [if_neg hc] at hw ⊢
    refine am_E.go ⟨am_ki_ N T I L r _, s_250 hw (fun q2 hk => ⟨q2, rfl, rfl, hk⟩), ?_⟩
    intro v h9 hv
    obtain ⟨q2, rfl, rfl, hw⟩ := hv
    try dsimp only at hw
    refine am_E.run [] 2000 (show (if q2 = x0 then (((1 : Int32) = 0 ∨ (1 : Int32) = 1) ∧ Q (some (.int 1)) (N, am_ts T, I, L, am_rs r)) else (((0 : Int32) = 0 ∨ (0 : Int32) = 1) ∧ Q (some (.int 0)) (N, am_ts T, I, L, am_rs r))) from ?_)
    by_cases hc : q2 = x0
    · rw [if_pos hc] at hw ⊢
      exact ⟨Or.inr rfl, hK _ hw⟩
    · rw [if_neg hc] at hw ⊢
      exact ⟨Or.inl rfl, hK _ hw⟩
def lw_256_2 : Nat → Int32 → Int32 → am_I → (Int32 → am_I → Prop) → Prop
  | 0, _, _, _, _ => False
  | n + 1, v1, v2, I, E0 =>
    if (21 : Int32) ≤ v2 then
      E0 v2 I
    else
      ¬ ((5 + v2) < 0 ∨ 5510 ≤ Int32.toNatClampNeg (5 + v2)) ∧
      ¬ (((21 * v1) + v2) < 0 ∨ 378 ≤ Int32.toNatClampNeg ((21 * v1) + v2)) ∧
      lw_256_2 n v1 (v2 + 1) (am_u I 71 (Int32.toNatClampNeg ((21 * v1) + v2)) (I 68 (Int32.toNatClampNeg (5 + v2)))) E0
set_option maxRecDepth 100000 in
theorem sl_256_2 {S : am_S} {d : Nat} {Q : am_Q} {N : Nat} {T : Nat → Nat × Nat} {L : am_J} {r : Nat → Nat → Option Nat} {E0 : Int32 → am_I → Prop} : ∀ (n : Nat) {v1 : Int32} {v2 : Int32} {I : am_I}, lw_256_2 n v1 v2 I E0 → (∀ (o2 : Int32) (I1 : am_I), E0 o2 I1 → am_E S 256 (d + 0) 0 0 33 [.ref 66, .int v1, .int o2] [] (N, am_ts T, I1, L, am_rs r) Q) → am_E S 256 (d + 0) 0 0 2 [.ref 66, .int v1, .int v2] [] (N, am_ts T, I, L, am_rs r) Q
  | 0, _, _, _, hw, _ => hw.elim
  | n + 1, v1, v2, I, hw, hE0 => by
    have ih := @sl_256_2 S d Q N T L r E0 n
    unfold lw_256_2 at hw
    try dsimp only at hw
    refine am_E.run [2, 33] 2000 (show (if (21 : Int32) ≤ v2 then (am_E S 256 (d + 0) 0 0 33 [.ref 66, .int v1, .int v2] [] (N, am_ts T, I, L, am_rs r) Q) else (if (5 + v2) < 0 ∨ 5510 ≤ Int32.toNatClampNeg (5 + v2) then False else (if ((21 * v1) + v2) < 0 ∨ 378 ≤ Int32.toNatClampNeg ((21 * v1) + v2) then False else (am_E S 256 (d + 0) 0 0 2 [.ref 66, .int v1, .int (v2 + 1)] [] (N, am_ts T, (am_u I 71 (Int32.toNatClampNeg ((21 * v1) + v2)) (I 68 (Int32.toNatClampNeg (5 + v2)))), L, am_rs r) Q)))) from ?_)
    by_cases hc : (21 : Int32) ≤ v2
    · rw [if_pos hc] at hw ⊢
      exact hE0 _ _ hw
    · rw [if_neg hc] at hw ⊢
      refine am_ifn hw.1 ?_
      replace hw := hw.2
      refine am_ifn hw.1 ?_
      replace hw := hw.2
      exact ih hw hE0
/-- KeyKeepersModel.keepAll(I)V -/
def w_256 (x0 : Int32) (I : am_I) (K : am_I → Prop) : Prop :=
  ∃ n2, lw_256_2 n2 x0 0 I (fun o1 I2 =>
    K I2)
set_option maxRecDepth 100000 in
theorem s_256 {S : am_S} {d : Nat} {N : Nat} {T : Nat → Nat × Nat} {I : am_I} {L : am_J} {r : Nat → Nat → Option Nat} {Q : am_Q} {x0 : Int32} {K : am_I → Prop} (hw : w_256 x0 I K) (hK : ∀ (I1 : am_I), K I1 → Q (none) (N, am_ts T, I1, L, am_rs r)) : am_E S 256 (d + 0) 0 0 0 [.ref 66, .int x0, am_jk] [] (N, am_ts T, I, L, am_rs r) Q := by
  unfold w_256 at hw
  try dsimp only at hw
  refine am_E.run [2] 2000 (show (am_E S 256 (d + 0) 0 0 2 [.ref 66, .int x0, .int 0] [] (N, am_ts T, I, L, am_rs r) Q) from ?_)
  obtain ⟨n2, hw⟩ := hw
  refine sl_256_2 n2 hw (fun o1 I2 hw => ?_)
  · try dsimp only at hw
    refine am_E.run [] 2000 (show (True ∧ Q (none) (N, am_ts T, I2, L, am_rs r)) from ?_)
    exact ⟨trivial, hK _ hw⟩
/-- KeyKeepersModel.behindDoor(II)I -/
def w_257 (x0 : Int32) (x1 : Int32) (I : am_I) (K : Int32 → Prop) : Prop :=
  w_250 x1 0 I (fun q1 =>
    if q1 = x0 then
      w_250 x1 1 I (fun q3 =>
        K q3)
    else
      w_250 x1 0 I (fun q2 =>
        K q2))
set_option maxRecDepth 100000 in
theorem s_257 {S : am_S} {d : Nat} {N : Nat} {T : Nat → Nat × Nat} {I : am_I} {L : am_J} {r : Nat → Nat → Option Nat} {Q : am_Q} {x0 : Int32} {x1 : Int32} {K : Int32 → Prop} (hw : w_257 x0 x1 I K) (hK : ∀ (q : Int32), K q → Q (some (.int q)) (N, am_ts T, I, L, am_rs r)) : am_E S 257 (d + 1) 0 0 0 [.ref 66, .int x0, .int x1] [] (N, am_ts T, I, L, am_rs r) Q := by
  unfold w_257 at hw
  try dsimp only at hw
  refine am_E.run [3] 2000 (show (am_E S 257 (d + 1) 0 0 3 [.ref 66, .int x0, .int x1] [.int 0, .int x1, .ref 66] (N, am_ts T, I, L, am_rs r) Q) from ?_)
  refine am_E.go ⟨am_ki_ N T I L r _, s_250 hw (fun q1 hk => ⟨q1, rfl, rfl, hk⟩), ?_⟩
  intro v h9 hv
  obtain ⟨q1, rfl, rfl, hw⟩ := hv
  try dsimp only at hw
  refine am_E.run [13, 22] 2000 (show (if q1 = x0 then (am_E S 257 (d + 1) 0 0 13 [.ref 66, .int x0, .int x1] [.int 1, .int x1, .ref 66] (N, am_ts T, I, L, am_rs r) Q) else (am_E S 257 (d + 1) 0 0 22 [.ref 66, .int x0, .int x1] [.int 0, .int x1, .ref 66] (N, am_ts T, I, L, am_rs r) Q)) from ?_)
  by_cases hc : q1 = x0
  · rw [if_pos hc] at hw ⊢
    refine am_E.go ⟨am_ki_ N T I L r _, s_250 hw (fun q3 hk => ⟨q3, rfl, rfl, hk⟩), ?_⟩
    intro v h9 hv
    obtain ⟨q3, rfl, rfl, hw⟩ := hv
    try dsimp only at hw
    refine am_E.run [] 2000 (show (True ∧ Q (some (.int q3)) (N, am_ts T, I, L, am_rs r)) from ?_)
    exact ⟨trivial, hK _ hw⟩
  · rw [if_neg hc] at hw ⊢
    refine am_E.go ⟨am_ki_ N T I L r _, s_250 hw (fun q2 hk => ⟨q2, rfl, rfl, hk⟩), ?_⟩
    intro v h9 hv
    obtain ⟨q2, rfl, rfl, hw⟩ := hv
    try dsimp only at hw
    refine am_E.run [] 2000 (show (True ∧ Q (some (.int q2)) (N, am_ts T, I, L, am_rs r)) from ?_)
    exact ⟨trivial, hK _ hw⟩
def lw_263_4 : Nat → Int32 → Int32 → am_I → (Int32 → Int32 → Prop) → Prop
  | 0, _, _, _, _ => False
  | n + 1, v1, v2, I, E0 =>
    if (I 68 1) ≤ v2 then
      E0 v1 v2
    else
      ¬ ((10 + v2) < 0 ∨ 5510 ≤ Int32.toNatClampNeg (10 + v2)) ∧
      if (I 68 (Int32.toNatClampNeg (10 + v2))) = 0 then
        lw_263_4 n (v1 + 0) (v2 + 1) I E0
      else
        lw_263_4 n (v1 + 1) (v2 + 1) I E0
set_option maxRecDepth 100000 in
theorem sl_263_4 {S : am_S} {d : Nat} {Q : am_Q} {N : Nat} {T : Nat → Nat × Nat} {I : am_I} {L : am_J} {r : Nat → Nat → Option Nat} {E0 : Int32 → Int32 → Prop} : ∀ (n : Nat) {v1 : Int32} {v2 : Int32}, lw_263_4 n v1 v2 I E0 → (∀ (o1 : Int32) (o2 : Int32), E0 o1 o2 → am_E S 263 (d + 0) 0 0 40 [.ref 66, .int o1, .int o2] [] (N, am_ts T, I, L, am_rs r) Q) → am_E S 263 (d + 0) 0 0 4 [.ref 66, .int v1, .int v2] [] (N, am_ts T, I, L, am_rs r) Q
  | 0, _, _, hw, _ => hw.elim
  | n + 1, v1, v2, hw, hE0 => by
    have ih := @sl_263_4 S d Q N T I L r E0 n
    unfold lw_263_4 at hw
    try dsimp only at hw
    refine am_E.run [4, 40] 2000 (show (if (I 68 1) ≤ v2 then (am_E S 263 (d + 0) 0 0 40 [.ref 66, .int v1, .int v2] [] (N, am_ts T, I, L, am_rs r) Q) else (if (10 + v2) < 0 ∨ 5510 ≤ Int32.toNatClampNeg (10 + v2) then False else (if (I 68 (Int32.toNatClampNeg (10 + v2))) = 0 then (am_E S 263 (d + 0) 0 0 4 [.ref 66, .int (v1 + 0), .int (v2 + 1)] [] (N, am_ts T, I, L, am_rs r) Q) else (am_E S 263 (d + 0) 0 0 4 [.ref 66, .int (v1 + 1), .int (v2 + 1)] [] (N, am_ts T, I, L, am_rs r) Q)))) from ?_)
    by_cases hc : (I 68 1) ≤ v2
    · rw [if_pos hc] at hw ⊢
      exact hE0 _ _ hw
    · rw [if_neg hc] at hw ⊢
      refine am_ifn hw.1 ?_
      replace hw := hw.2
      by_cases hc : (I 68 (Int32.toNatClampNeg (10 + v2))) = 0
      · rw [if_pos hc] at hw ⊢
        exact ih hw hE0
      · rw [if_neg hc] at hw ⊢
        exact ih hw hE0
/-- KeyKeepersModel.inside()I -/
def w_263 (I : am_I) (K : Int32 → Prop) : Prop :=
  ∃ n4, lw_263_4 n4 0 0 I (fun o1 o2 =>
    K o1)
set_option maxRecDepth 100000 in
theorem s_263 {S : am_S} {d : Nat} {N : Nat} {T : Nat → Nat × Nat} {I : am_I} {L : am_J} {r : Nat → Nat → Option Nat} {Q : am_Q} {K : Int32 → Prop} (hw : w_263 I K) (hK : ∀ (q : Int32), K q → Q (some (.int q)) (N, am_ts T, I, L, am_rs r)) : am_E S 263 (d + 0) 0 0 0 [.ref 66, am_jk, am_jk] [] (N, am_ts T, I, L, am_rs r) Q := by
  unfold w_263 at hw
  try dsimp only at hw
  refine am_E.run [4] 2000 (show (am_E S 263 (d + 0) 0 0 4 [.ref 66, .int 0, .int 0] [] (N, am_ts T, I, L, am_rs r) Q) from ?_)
  obtain ⟨n4, hw⟩ := hw
  refine sl_263_4 n4 hw (fun o1 o2 hw => ?_)
  · try dsimp only at hw
    refine am_E.run [] 2000 (show (True ∧ Q (some (.int o1)) (N, am_ts T, I, L, am_rs r)) from ?_)
    exact ⟨trivial, hK _ hw⟩
def lw_268_12 : Nat → Int32 → Int32 → Int32 → am_I → (Int32 → Int32 → Prop) → Prop
  | 0, _, _, _, _, _ => False
  | n + 1, v1, v2, v3, I, E0 =>
    if (I 68 1) ≤ v3 then
      E0 v2 v3
    else
      w_249 v3 v1 I (fun q1 =>
        if q1 = 0 then
          lw_268_12 n v1 (v2 ||| 0) (v3 + 1) I E0
        else
          ¬ ((18 + v3) < 0 ∨ 5510 ≤ Int32.toNatClampNeg (18 + v3)) ∧
          lw_268_12 n v1 (v2 ||| (I 68 (Int32.toNatClampNeg (18 + v3)))) (v3 + 1) I E0)
set_option maxRecDepth 100000 in
theorem sl_268_12 {S : am_S} {d : Nat} {Q : am_Q} {N : Nat} {T : Nat → Nat × Nat} {I : am_I} {L : am_J} {r : Nat → Nat → Option Nat} {E0 : Int32 → Int32 → Prop} : ∀ (n : Nat) {v1 : Int32} {v2 : Int32} {v3 : Int32}, lw_268_12 n v1 v2 v3 I E0 → (∀ (o2 : Int32) (o3 : Int32), E0 o2 o3 → am_E S 268 (d + 2) 0 0 53 [.ref 66, .int v1, .int o2, .int o3] [] (N, am_ts T, I, L, am_rs r) Q) → am_E S 268 (d + 2) 0 0 12 [.ref 66, .int v1, .int v2, .int v3] [] (N, am_ts T, I, L, am_rs r) Q
  | 0, _, _, _, hw, _ => hw.elim
  | n + 1, v1, v2, v3, hw, hE0 => by
    have ih := @sl_268_12 S d Q N T I L r E0 n
    unfold lw_268_12 at hw
    try dsimp only at hw
    refine am_E.run [26, 53] 2000 (show (if (I 68 1) ≤ v3 then (am_E S 268 (d + 2) 0 0 53 [.ref 66, .int v1, .int v2, .int v3] [] (N, am_ts T, I, L, am_rs r) Q) else (am_E S 268 (d + 2) 0 0 26 [.ref 66, .int v1, .int v2, .int v3] [.int v1, .int v3, .ref 66, .int v2] (N, am_ts T, I, L, am_rs r) Q)) from ?_)
    by_cases hc : (I 68 1) ≤ v3
    · rw [if_pos hc] at hw ⊢
      exact hE0 _ _ hw
    · rw [if_neg hc] at hw ⊢
      refine am_E.go ⟨am_ki_ N T I L r _, s_249 hw (fun q1 hk => ⟨q1, rfl, rfl, hk⟩), ?_⟩
      intro v h9 hv
      obtain ⟨q1, rfl, rfl, hw⟩ := hv
      try dsimp only at hw
      refine am_E.run [12] 2000 (show (if q1 = 0 then (am_E S 268 (d + 2) 0 0 12 [.ref 66, .int v1, .int (v2 ||| 0), .int (v3 + 1)] [] (N, am_ts T, I, L, am_rs r) Q) else (if (18 + v3) < 0 ∨ 5510 ≤ Int32.toNatClampNeg (18 + v3) then False else (am_E S 268 (d + 2) 0 0 12 [.ref 66, .int v1, .int (v2 ||| (I 68 (Int32.toNatClampNeg (18 + v3)))), .int (v3 + 1)] [] (N, am_ts T, I, L, am_rs r) Q))) from ?_)
      by_cases hc : q1 = 0
      · rw [if_pos hc] at hw ⊢
        exact ih hw hE0
      · rw [if_neg hc] at hw ⊢
        refine am_ifn hw.1 ?_
        replace hw := hw.2
        exact ih hw hE0
/-- KeyKeepersModel.keysFor(I)I -/
def w_268 (x0 : Int32) (I : am_I) (K : Int32 → Prop) : Prop :=
  ¬ ((18 + x0) < 0 ∨ 5510 ≤ Int32.toNatClampNeg (18 + x0)) ∧
  ∃ n12, lw_268_12 n12 x0 (I 68 (Int32.toNatClampNeg (18 + x0))) 0 I (fun o2 o3 =>
    K o2)
set_option maxRecDepth 100000 in
theorem s_268 {S : am_S} {d : Nat} {N : Nat} {T : Nat → Nat × Nat} {I : am_I} {L : am_J} {r : Nat → Nat → Option Nat} {Q : am_Q} {x0 : Int32} {K : Int32 → Prop} (hw : w_268 x0 I K) (hK : ∀ (q : Int32), K q → Q (some (.int q)) (N, am_ts T, I, L, am_rs r)) : am_E S 268 (d + 2) 0 0 0 [.ref 66, .int x0, am_jk, am_jk] [] (N, am_ts T, I, L, am_rs r) Q := by
  unfold w_268 at hw
  try dsimp only at hw
  refine am_E.run [12] 2000 (show (if (18 + x0) < 0 ∨ 5510 ≤ Int32.toNatClampNeg (18 + x0) then False else (am_E S 268 (d + 2) 0 0 12 [.ref 66, .int x0, .int (I 68 (Int32.toNatClampNeg (18 + x0))), .int 0] [] (N, am_ts T, I, L, am_rs r) Q)) from ?_)
  refine am_ifn hw.1 ?_
  replace hw := hw.2
  obtain ⟨n12, hw⟩ := hw
  refine sl_268_12 n12 hw (fun o2 o3 hw => ?_)
  · try dsimp only at hw
    refine am_E.run [] 2000 (show (True ∧ Q (some (.int o2)) (N, am_ts T, I, L, am_rs r)) from ?_)
    exact ⟨trivial, hK _ hw⟩
/-- KeyKeepersModel.takeOff(I)V -/
def w_274 (x0 : Int32) (I : am_I) (K : am_I → Prop) : Prop :=
  if x0 < 0 then
    K I
  else
    ¬ (x0 < 0 ∨ 7 ≤ Int32.toNatClampNeg x0) ∧
    if (I 89 (Int32.toNatClampNeg x0)) < 0 then
      K I
    else
      ¬ (x0 < 0 ∨ 7 ≤ Int32.toNatClampNeg x0) ∧
      if (I 68 1) ≤ (I 89 (Int32.toNatClampNeg x0)) then
        K I
      else
        ¬ (x0 < 0 ∨ 7 ≤ Int32.toNatClampNeg x0) ∧
        if (I 92 (Int32.toNatClampNeg x0)) = 0 then
          K I
        else
          ¬ (x0 < 0 ∨ 7 ≤ Int32.toNatClampNeg x0) ∧
          ¬ ((I 89 (Int32.toNatClampNeg x0)) < 0 ∨ 8 ≤ Int32.toNatClampNeg (I 89 (Int32.toNatClampNeg x0))) ∧
          ¬ ((I 89 (Int32.toNatClampNeg x0)) < 0 ∨ 8 ≤ Int32.toNatClampNeg (I 89 (Int32.toNatClampNeg x0))) ∧
          ¬ (x0 < 0 ∨ 7 ≤ Int32.toNatClampNeg x0) ∧
          K (am_u (am_u I 91 (Int32.toNatClampNeg (I 89 (Int32.toNatClampNeg x0))) ((I 91 (Int32.toNatClampNeg (I 89 (Int32.toNatClampNeg x0)))) - 1)) 92 (Int32.toNatClampNeg x0) (vp_nar .boolean 0))
set_option maxRecDepth 100000 in
theorem s_274 {S : am_S} {d : Nat} {N : Nat} {T : Nat → Nat × Nat} {I : am_I} {L : am_J} {r : Nat → Nat → Option Nat} {Q : am_Q} {x0 : Int32} {K : am_I → Prop} (hw : w_274 x0 I K) (hK : ∀ (I1 : am_I), K I1 → Q (none) (N, am_ts T, I1, L, am_rs r)) : am_E S 274 (d + 0) 0 0 0 [.ref 66, .int x0] [] (N, am_ts T, I, L, am_rs r) Q := by
  unfold w_274 at hw
  try dsimp only at hw
  refine am_E.run [] 2000 (show (if x0 < 0 then (True ∧ Q (none) (N, am_ts T, I, L, am_rs r)) else (if x0 < 0 ∨ 7 ≤ Int32.toNatClampNeg x0 then False else (if (I 89 (Int32.toNatClampNeg x0)) < 0 then (True ∧ Q (none) (N, am_ts T, I, L, am_rs r)) else (if x0 < 0 ∨ 7 ≤ Int32.toNatClampNeg x0 then False else (if (I 68 1) ≤ (I 89 (Int32.toNatClampNeg x0)) then (True ∧ Q (none) (N, am_ts T, I, L, am_rs r)) else (if x0 < 0 ∨ 7 ≤ Int32.toNatClampNeg x0 then False else (if (I 92 (Int32.toNatClampNeg x0)) = 0 then (True ∧ Q (none) (N, am_ts T, I, L, am_rs r)) else (if x0 < 0 ∨ 7 ≤ Int32.toNatClampNeg x0 then False else (if (I 89 (Int32.toNatClampNeg x0)) < 0 ∨ 8 ≤ Int32.toNatClampNeg (I 89 (Int32.toNatClampNeg x0)) then False else (if (I 89 (Int32.toNatClampNeg x0)) < 0 ∨ 8 ≤ Int32.toNatClampNeg (I 89 (Int32.toNatClampNeg x0)) then False else (if x0 < 0 ∨ 7 ≤ Int32.toNatClampNeg x0 then False else (True ∧ Q (none) (N, am_ts T, (am_u (am_u I 91 (Int32.toNatClampNeg (I 89 (Int32.toNatClampNeg x0))) ((I 91 (Int32.toNatClampNeg (I 89 (Int32.toNatClampNeg x0)))) - 1)) 92 (Int32.toNatClampNeg x0) (vp_nar .boolean 0)), L, am_rs r))))))))))))) from ?_)
  by_cases hc : x0 < 0
  · rw [if_pos hc] at hw ⊢
    exact ⟨trivial, hK _ hw⟩
  · rw [if_neg hc] at hw ⊢
    refine am_ifn hw.1 ?_
    replace hw := hw.2
    by_cases hc : (I 89 (Int32.toNatClampNeg x0)) < 0
    · rw [if_pos hc] at hw ⊢
      exact ⟨trivial, hK _ hw⟩
    · rw [if_neg hc] at hw ⊢
      refine am_ifn hw.1 ?_
      replace hw := hw.2
      by_cases hc : (I 68 1) ≤ (I 89 (Int32.toNatClampNeg x0))
      · rw [if_pos hc] at hw ⊢
        exact ⟨trivial, hK _ hw⟩
      · rw [if_neg hc] at hw ⊢
        refine am_ifn hw.1 ?_
        replace hw := hw.2
        by_cases hc : (I 92 (Int32.toNatClampNeg x0)) = 0
        · rw [if_pos hc] at hw ⊢
          exact ⟨trivial, hK _ hw⟩
        · rw [if_neg hc] at hw ⊢
          refine am_ifn hw.1 ?_
          replace hw := hw.2
          refine am_ifn hw.1 ?_
          replace hw := hw.2
          refine am_ifn hw.1 ?_
          replace hw := hw.2
          refine am_ifn hw.1 ?_
          replace hw := hw.2
          exact ⟨trivial, hK _ hw⟩
/-- KeyKeepersModel.costAt(I)I -/
def w_275 (x0 : Int32) (I : am_I) (K : Int32 → Prop) : Prop :=
  ¬ (x0 < 0 ∨ 7 ≤ Int32.toNatClampNeg x0) ∧
  if x0 ≤ 0 then
    ¬ ((((12 * (I 89 (Int32.toNatClampNeg x0))) + (2 * x0)) + 0) < 0 ∨ 96 ≤ Int32.toNatClampNeg (((12 * (I 89 (Int32.toNatClampNeg x0))) + (2 * x0)) + 0)) ∧
    K (I 88 (Int32.toNatClampNeg (((12 * (I 89 (Int32.toNatClampNeg x0))) + (2 * x0)) + 0)))
  else
    ¬ ((x0 - 1) < 0 ∨ 7 ≤ Int32.toNatClampNeg (x0 - 1)) ∧
    ¬ (x0 < 0 ∨ 7 ≤ Int32.toNatClampNeg x0) ∧
    if (I 89 (Int32.toNatClampNeg (x0 - 1))) = (I 89 (Int32.toNatClampNeg x0)) then
      ¬ ((((12 * (I 89 (Int32.toNatClampNeg x0))) + (2 * x0)) + 1) < 0 ∨ 96 ≤ Int32.toNatClampNeg (((12 * (I 89 (Int32.toNatClampNeg x0))) + (2 * x0)) + 1)) ∧
      K (I 88 (Int32.toNatClampNeg (((12 * (I 89 (Int32.toNatClampNeg x0))) + (2 * x0)) + 1)))
    else
      ¬ ((((12 * (I 89 (Int32.toNatClampNeg x0))) + (2 * x0)) + 0) < 0 ∨ 96 ≤ Int32.toNatClampNeg (((12 * (I 89 (Int32.toNatClampNeg x0))) + (2 * x0)) + 0)) ∧
      K (I 88 (Int32.toNatClampNeg (((12 * (I 89 (Int32.toNatClampNeg x0))) + (2 * x0)) + 0)))
set_option maxRecDepth 100000 in
theorem s_275 {S : am_S} {d : Nat} {N : Nat} {T : Nat → Nat × Nat} {I : am_I} {L : am_J} {r : Nat → Nat → Option Nat} {Q : am_Q} {x0 : Int32} {K : Int32 → Prop} (hw : w_275 x0 I K) (hK : ∀ (q : Int32), K q → Q (some (.int q)) (N, am_ts T, I, L, am_rs r)) : am_E S 275 (d + 0) 0 0 0 [.ref 66, .int x0] [] (N, am_ts T, I, L, am_rs r) Q := by
  unfold w_275 at hw
  try dsimp only at hw
  refine am_E.run [] 2000 (show (if x0 < 0 ∨ 7 ≤ Int32.toNatClampNeg x0 then False else (if x0 ≤ 0 then (if (((12 * (I 89 (Int32.toNatClampNeg x0))) + (2 * x0)) + 0) < 0 ∨ 96 ≤ Int32.toNatClampNeg (((12 * (I 89 (Int32.toNatClampNeg x0))) + (2 * x0)) + 0) then False else (True ∧ Q (some (.int (I 88 (Int32.toNatClampNeg (((12 * (I 89 (Int32.toNatClampNeg x0))) + (2 * x0)) + 0))))) (N, am_ts T, I, L, am_rs r))) else (if (x0 - 1) < 0 ∨ 7 ≤ Int32.toNatClampNeg (x0 - 1) then False else (if x0 < 0 ∨ 7 ≤ Int32.toNatClampNeg x0 then False else (if (I 89 (Int32.toNatClampNeg (x0 - 1))) = (I 89 (Int32.toNatClampNeg x0)) then (if (((12 * (I 89 (Int32.toNatClampNeg x0))) + (2 * x0)) + 1) < 0 ∨ 96 ≤ Int32.toNatClampNeg (((12 * (I 89 (Int32.toNatClampNeg x0))) + (2 * x0)) + 1) then False else (True ∧ Q (some (.int (I 88 (Int32.toNatClampNeg (((12 * (I 89 (Int32.toNatClampNeg x0))) + (2 * x0)) + 1))))) (N, am_ts T, I, L, am_rs r))) else (if (((12 * (I 89 (Int32.toNatClampNeg x0))) + (2 * x0)) + 0) < 0 ∨ 96 ≤ Int32.toNatClampNeg (((12 * (I 89 (Int32.toNatClampNeg x0))) + (2 * x0)) + 0) then False else (True ∧ Q (some (.int (I 88 (Int32.toNatClampNeg (((12 * (I 89 (Int32.toNatClampNeg x0))) + (2 * x0)) + 0))))) (N, am_ts T, I, L, am_rs r)))))))) from ?_)
  refine am_ifn hw.1 ?_
  replace hw := hw.2
  by_cases hc : x0 ≤ 0
  · rw [if_pos hc] at hw ⊢
    refine am_ifn hw.1 ?_
    replace hw := hw.2
    exact ⟨trivial, hK _ hw⟩
  · rw [if_neg hc] at hw ⊢
    refine am_ifn hw.1 ?_
    replace hw := hw.2
    refine am_ifn hw.1 ?_
    replace hw := hw.2
    by_cases hc : (I 89 (Int32.toNatClampNeg (x0 - 1))) = (I 89 (Int32.toNatClampNeg x0))
    · rw [if_pos hc] at hw ⊢
      refine am_ifn hw.1 ?_
      replace hw := hw.2
      exact ⟨trivial, hK _ hw⟩
    · rw [if_neg hc] at hw ⊢
      refine am_ifn hw.1 ?_
      replace hw := hw.2
      exact ⟨trivial, hK _ hw⟩
