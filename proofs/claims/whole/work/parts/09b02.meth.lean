/-- KeyKeepers.terms(II)I -/
def w_31 (x0 : Int32) (x1 : Int32) (I : am_I) (K : Int32 → am_I → Prop) : Prop :=
  if (f_13 x0 0 3) = 0 then
    w_14 (-1) I (fun q1 I2 =>
      K q1 I2)
  else
    ¬ (x0 < 0 ∨ (am_pe (0, fun _ => 0) 0).1 ≤ Int32.toNatClampNeg x0) ∧
    ¬ (x0 < 0 ∨ (am_pe (0, fun _ => 0) 1).1 ≤ Int32.toNatClampNeg x0) ∧
    if (f_13 x1 ((am_pe (0, fun _ => 0) 0).2 (Int32.toNatClampNeg x0)) ((am_pe (0, fun _ => 0) 1).2 (Int32.toNatClampNeg x0))) = 0 then
      w_14 (-1) I (fun q6 I7 =>
        K q6 I7)
    else
      ¬ (x0 < 0 ∨ 4 ≤ Int32.toNatClampNeg x0) ∧
      ¬ (x0 < 0 ∨ 4 ≤ Int32.toNatClampNeg x0) ∧
      w_24 (am_u I 12 (Int32.toNatClampNeg x0) x1) (fun I3 =>
        w_16 (I 12 (Int32.toNatClampNeg x0)) I3 (fun q4 I5 =>
          K q4 I5))
set_option maxRecDepth 100000 in
theorem s_31 {S : am_S} {d : Nat} {N : Nat} {T : Nat → Nat × Nat} {I : am_I} {L : am_J} {r : Nat → Nat → Option Nat} {Q : am_Q} {x0 : Int32} {x1 : Int32} {K : Int32 → am_I → Prop} (hw : w_31 x0 x1 I K) (hK : ∀ (q : Int32) (I1 : am_I), K q I1 → Q (some (.int q)) (N, am_ts T, I1, L, am_rs r)) : am_E S 31 (d + 1) 0 0 0 [.ref 0, .int x0, .int x1, am_jk] [] (N, am_ts T, I, L, am_rs r) Q := by
  unfold w_31 at hw
  try dsimp only at hw
  refine am_E.run [3] 2000 (show (am_E S 31 (d + 1) 0 0 3 [.ref 0, .int x0, .int x1, am_jk] [.int 3, .int 0, .int x0] (N, am_ts T, I, L, am_rs r) Q) from ?_)
  refine am_E.go ⟨fun v h9 => v = some (.int (f_13 x0 0 3)) ∧ h9 = (N, am_ts T, I, L, am_rs r), s_13 ⟨rfl, rfl⟩, ?_⟩
  intro v h9 hv
  obtain ⟨rfl, rfl⟩ := hv
  refine am_E.run [20, 28] 2000 (show (if (f_13 x0 0 3) = 0 then (am_E S 31 (d + 1) 0 0 28 [.ref 0, .int x0, .int x1, am_jk] [.int (-1), .ref 0] (N, am_ts T, I, L, am_rs r) Q) else (if x0 < 0 ∨ (am_pe (0, fun _ => 0) 0).1 ≤ Int32.toNatClampNeg x0 then False else (if x0 < 0 ∨ (am_pe (0, fun _ => 0) 1).1 ≤ Int32.toNatClampNeg x0 then False else (am_E S 31 (d + 1) 0 0 20 [.ref 0, .int x0, .int x1, am_jk] [.int ((am_pe (0, fun _ => 0) 1).2 (Int32.toNatClampNeg x0)), .int ((am_pe (0, fun _ => 0) 0).2 (Int32.toNatClampNeg x0)), .int x1] (N, am_ts T, I, L, am_rs r) Q)))) from ?_)
  by_cases hc : (f_13 x0 0 3) = 0
  · rw [if_pos hc] at hw ⊢
    refine am_E.go ⟨am_ki_I N T L r _, s_14 hw (fun q1 I2 hk => ⟨q1, I2, rfl, rfl, hk⟩), ?_⟩
    intro v h9 hv
    obtain ⟨q1, I2, rfl, rfl, hw⟩ := hv
    try dsimp only at hw
    refine am_E.run [] 2000 (show (True ∧ Q (some (.int q1)) (N, am_ts T, I2, L, am_rs r)) from ?_)
    exact ⟨trivial, hK _ _ hw⟩
  · rw [if_neg hc] at hw ⊢
    refine am_ifn hw.1 ?_
    replace hw := hw.2
    refine am_ifn hw.1 ?_
    replace hw := hw.2
    refine am_E.go ⟨fun v h9 => v = some (.int (f_13 x1 ((am_pe (0, fun _ => 0) 0).2 (Int32.toNatClampNeg x0)) ((am_pe (0, fun _ => 0) 1).2 (Int32.toNatClampNeg x0)))) ∧ h9 = (N, am_ts T, I, L, am_rs r), s_13 ⟨rfl, rfl⟩, ?_⟩
    intro v h9 hv
    obtain ⟨rfl, rfl⟩ := hv
    refine am_E.run [28, 56] 2000 (show (if (f_13 x1 ((am_pe (0, fun _ => 0) 0).2 (Int32.toNatClampNeg x0)) ((am_pe (0, fun _ => 0) 1).2 (Int32.toNatClampNeg x0))) = 0 then (am_E S 31 (d + 1) 0 0 28 [.ref 0, .int x0, .int x1, am_jk] [.int (-1), .ref 0] (N, am_ts T, I, L, am_rs r) Q) else (if x0 < 0 ∨ 4 ≤ Int32.toNatClampNeg x0 then False else (if x0 < 0 ∨ 4 ≤ Int32.toNatClampNeg x0 then False else (am_E S 31 (d + 1) 0 0 56 [.ref 0, .int x0, .int x1, .int (I 12 (Int32.toNatClampNeg x0))] [.ref 29] (N, am_ts T, (am_u I 12 (Int32.toNatClampNeg x0) x1), L, am_rs r) Q)))) from ?_)
    by_cases hc : (f_13 x1 ((am_pe (0, fun _ => 0) 0).2 (Int32.toNatClampNeg x0)) ((am_pe (0, fun _ => 0) 1).2 (Int32.toNatClampNeg x0))) = 0
    · rw [if_pos hc] at hw ⊢
      refine am_E.go ⟨am_ki_I N T L r _, s_14 hw (fun q6 I7 hk => ⟨q6, I7, rfl, rfl, hk⟩), ?_⟩
      intro v h9 hv
      obtain ⟨q6, I7, rfl, rfl, hw⟩ := hv
      try dsimp only at hw
      refine am_E.run [] 2000 (show (True ∧ Q (some (.int q6)) (N, am_ts T, I7, L, am_rs r)) from ?_)
      exact ⟨trivial, hK _ _ hw⟩
    · rw [if_neg hc] at hw ⊢
      refine am_ifn hw.1 ?_
      replace hw := hw.2
      refine am_ifn hw.1 ?_
      replace hw := hw.2
      refine am_E.go ⟨am_kv_I N T L r _, s_24 hw (fun I3 hk => ⟨I3, rfl, rfl, hk⟩), ?_⟩
      intro v h9 hv
      obtain ⟨I3, rfl, rfl, hw⟩ := hv
      try dsimp only at hw
      refine am_E.run [61] 2000 (show (am_E S 31 (d + 1) 0 0 61 [.ref 0, .int x0, .int x1, .int (I 12 (Int32.toNatClampNeg x0))] [.int (I 12 (Int32.toNatClampNeg x0)), .ref 0] (N, am_ts T, I3, L, am_rs r) Q) from ?_)
      refine am_E.go ⟨am_ki_I N T L r _, s_16 hw (fun q4 I5 hk => ⟨q4, I5, rfl, rfl, hk⟩), ?_⟩
      intro v h9 hv
      obtain ⟨q4, I5, rfl, rfl, hw⟩ := hv
      try dsimp only at hw
      refine am_E.run [] 2000 (show (True ∧ Q (some (.int q4)) (N, am_ts T, I5, L, am_rs r)) from ?_)
      exact ⟨trivial, hK _ _ hw⟩
def lw_33_3 : Nat → Int32 → Int32 → am_I → (Int32 → am_I → Prop) → Prop
  | 0, _, _, _, _ => False
  | n + 1, v1, v2, I, E0 =>
    if v2 < 0 then
      E0 v2 I
    else
      if (400 : Int32) ≤ (I 14 1) then
        lw_33_3 n v1 (v2 + (-8)) I E0
      else
        ¬ ((I 14 1) < 0 ∨ 400 ≤ Int32.toNatClampNeg (I 14 1)) ∧
        lw_33_3 n v1 (v2 + (-8)) (am_u (am_u I 15 (Int32.toNatClampNeg (I 14 1)) ((UInt32.toInt32 (Int32.toUInt32 v1 >>> (Int32.toUInt32 v2 &&& Int32.toUInt32 31))) &&& 255)) 14 1 ((I 14 1) + 1)) E0
set_option maxRecDepth 100000 in
theorem sl_33_3 {S : am_S} {d : Nat} {Q : am_Q} {N : Nat} {T : Nat → Nat × Nat} {L : am_J} {r : Nat → Nat → Option Nat} {E0 : Int32 → am_I → Prop} : ∀ (n : Nat) {v1 : Int32} {v2 : Int32} {I : am_I}, lw_33_3 n v1 v2 I E0 → (∀ (o2 : Int32) (I1 : am_I), E0 o2 I1 → am_E S 33 (d + 0) 0 0 49 [.ref 14, .int v1, .int o2] [] (N, am_ts T, I1, L, am_rs r) Q) → am_E S 33 (d + 0) 0 0 3 [.ref 14, .int v1, .int v2] [] (N, am_ts T, I, L, am_rs r) Q
  | 0, _, _, _, hw, _ => hw.elim
  | n + 1, v1, v2, I, hw, hE0 => by
    have ih := @sl_33_3 S d Q N T L r E0 n
    unfold lw_33_3 at hw
    try dsimp only at hw
    refine am_E.run [3, 49] 2000 (show (if v2 < 0 then (am_E S 33 (d + 0) 0 0 49 [.ref 14, .int v1, .int v2] [] (N, am_ts T, I, L, am_rs r) Q) else (if (400 : Int32) ≤ (I 14 1) then (am_E S 33 (d + 0) 0 0 3 [.ref 14, .int v1, .int (v2 + (-8))] [] (N, am_ts T, I, L, am_rs r) Q) else (if (I 14 1) < 0 ∨ 400 ≤ Int32.toNatClampNeg (I 14 1) then False else (am_E S 33 (d + 0) 0 0 3 [.ref 14, .int v1, .int (v2 + (-8))] [] (N, am_ts T, (am_u (am_u I 15 (Int32.toNatClampNeg (I 14 1)) ((UInt32.toInt32 (Int32.toUInt32 v1 >>> (Int32.toUInt32 v2 &&& Int32.toUInt32 31))) &&& 255)) 14 1 ((I 14 1) + 1)), L, am_rs r) Q)))) from ?_)
    by_cases hc : v2 < 0
    · rw [if_pos hc] at hw ⊢
      exact hE0 _ _ hw
    · rw [if_neg hc] at hw ⊢
      by_cases hc : (400 : Int32) ≤ (I 14 1)
      · rw [if_pos hc] at hw ⊢
        exact ih hw hE0
      · rw [if_neg hc] at hw ⊢
        refine am_ifn hw.1 ?_
        replace hw := hw.2
        exact ih hw hE0
/-- KeyKeepers$Reader.take(I)V -/
def w_33 (x0 : Int32) (I : am_I) (K : am_I → Prop) : Prop :=
  ∃ n3, lw_33_3 n3 x0 24 I (fun o1 I2 =>
    K I2)
set_option maxRecDepth 100000 in
theorem s_33 {S : am_S} {d : Nat} {N : Nat} {T : Nat → Nat × Nat} {I : am_I} {L : am_J} {r : Nat → Nat → Option Nat} {Q : am_Q} {x0 : Int32} {K : am_I → Prop} (hw : w_33 x0 I K) (hK : ∀ (I1 : am_I), K I1 → Q (none) (N, am_ts T, I1, L, am_rs r)) : am_E S 33 (d + 0) 0 0 0 [.ref 14, .int x0, am_jk] [] (N, am_ts T, I, L, am_rs r) Q := by
  unfold w_33 at hw
  try dsimp only at hw
  refine am_E.run [3] 2000 (show (am_E S 33 (d + 0) 0 0 3 [.ref 14, .int x0, .int 24] [] (N, am_ts T, I, L, am_rs r) Q) from ?_)
  obtain ⟨n3, hw⟩ := hw
  refine sl_33_3 n3 hw (fun o1 I2 hw => ?_)
  · try dsimp only at hw
    refine am_E.run [] 2000 (show (True ∧ Q (none) (N, am_ts T, I2, L, am_rs r)) from ?_)
    exact ⟨trivial, hK _ hw⟩
/-- KeyKeepers.end(I)I -/
def w_34 (x0 : Int32) (I : am_I) (K : Int32 → am_I → Prop) : Prop :=
  if (f_13 x0 0 (I 14 1)) = 0 then
    K (-1) I
  else
    K x0 (am_u I 14 1 x0)
set_option maxRecDepth 100000 in
theorem s_34 {S : am_S} {d : Nat} {N : Nat} {T : Nat → Nat × Nat} {I : am_I} {L : am_J} {r : Nat → Nat → Option Nat} {Q : am_Q} {x0 : Int32} {K : Int32 → am_I → Prop} (hw : w_34 x0 I K) (hK : ∀ (q : Int32) (I1 : am_I), K q I1 → Q (some (.int q)) (N, am_ts T, I1, L, am_rs r)) : am_E S 34 (d + 1) 0 0 0 [.ref 0, .int x0] [] (N, am_ts T, I, L, am_rs r) Q := by
  unfold w_34 at hw
  try dsimp only at hw
  refine am_E.run [9] 2000 (show (am_E S 34 (d + 1) 0 0 9 [.ref 0, .int x0] [.int (I 14 1), .int 0, .int x0] (N, am_ts T, I, L, am_rs r) Q) from ?_)
  refine am_E.go ⟨fun v h9 => v = some (.int (f_13 x0 0 (I 14 1))) ∧ h9 = (N, am_ts T, I, L, am_rs r), s_13 ⟨rfl, rfl⟩, ?_⟩
  intro v h9 hv
  obtain ⟨rfl, rfl⟩ := hv
  refine am_E.run [] 2000 (show (if (f_13 x0 0 (I 14 1)) = 0 then (True ∧ Q (some (.int (-1))) (N, am_ts T, I, L, am_rs r)) else (True ∧ Q (some (.int x0)) (N, am_ts T, (am_u I 14 1 x0), L, am_rs r))) from ?_)
  by_cases hc : (f_13 x0 0 (I 14 1)) = 0
  · rw [if_pos hc] at hw ⊢
    exact ⟨trivial, hK _ _ hw⟩
  · rw [if_neg hc] at hw ⊢
    exact ⟨trivial, hK _ _ hw⟩
/-- KeyKeepers.rats()I -/
def f_37 (I : am_I) : Int32 :=
  (I 0 13)
set_option maxRecDepth 100000 in
theorem s_37 {S : am_S} {d : Nat} {N : Nat} {T : Nat → Nat × Nat} {I : am_I} {L : am_J} {r : Nat → Nat → Option Nat} {Q : am_Q} (hq : Q (some (.int (f_37 I))) (N, am_ts T, I, L, am_rs r)) : am_E S 37 (d + 0) 0 0 0 [.ref 0] [] (N, am_ts T, I, L, am_rs r) Q := by
  unfold f_37 at hq
  try dsimp only at hq
  refine am_E.run [] 2000 (show (True ∧ Q (some (.int (I 0 13))) (N, am_ts T, I, L, am_rs r)) from ?_)
  exact ⟨trivial, hq⟩
/-- KeyKeepers$Reader.isLetter(I)Z -/
def f_42 (x0 : Int32) : Int32 :=
  if x0 < 97 then
    0
  else
    if (122 : Int32) < x0 then
      0
    else
      1
set_option maxRecDepth 100000 in
theorem s_42 {S : am_S} {d : Nat} {N : Nat} {T : Nat → Nat × Nat} {I : am_I} {L : am_J} {r : Nat → Nat → Option Nat} {Q : am_Q} {x0 : Int32} (hq : Q (some (.int (f_42 x0))) (N, am_ts T, I, L, am_rs r)) : am_E S 42 (d + 0) 0 0 0 [.int x0] [] (N, am_ts T, I, L, am_rs r) Q := by
  unfold f_42 at hq
  try dsimp only at hq
  refine am_E.run [] 2000 (show (if x0 < 97 then (((0 : Int32) = 0 ∨ (0 : Int32) = 1) ∧ Q (some (.int 0)) (N, am_ts T, I, L, am_rs r)) else (if (122 : Int32) < x0 then (((0 : Int32) = 0 ∨ (0 : Int32) = 1) ∧ Q (some (.int 0)) (N, am_ts T, I, L, am_rs r)) else (((1 : Int32) = 0 ∨ (1 : Int32) = 1) ∧ Q (some (.int 1)) (N, am_ts T, I, L, am_rs r)))) from ?_)
  by_cases hc : x0 < 97
  · rw [if_pos hc] at hq ⊢
    exact ⟨Or.inl rfl, hq⟩
  · rw [if_neg hc] at hq ⊢
    by_cases hc : (122 : Int32) < x0
    · rw [if_pos hc] at hq ⊢
      exact ⟨Or.inl rfl, hq⟩
    · rw [if_neg hc] at hq ⊢
      exact ⟨Or.inr rfl, hq⟩
theorem b_42 {x0 : Int32} : (f_42 x0) = 0 ∨ (f_42 x0) = 1 := by
  unfold f_42
  (repeat' split) <;> first | exact Or.inl rfl | exact Or.inr rfl
/-- KeyKeepers$Reader.isDigit(I)Z -/
def f_43 (x0 : Int32) : Int32 :=
  if x0 < 48 then
    0
  else
    if (57 : Int32) < x0 then
      0
    else
      1
set_option maxRecDepth 100000 in
theorem s_43 {S : am_S} {d : Nat} {N : Nat} {T : Nat → Nat × Nat} {I : am_I} {L : am_J} {r : Nat → Nat → Option Nat} {Q : am_Q} {x0 : Int32} (hq : Q (some (.int (f_43 x0))) (N, am_ts T, I, L, am_rs r)) : am_E S 43 (d + 0) 0 0 0 [.int x0] [] (N, am_ts T, I, L, am_rs r) Q := by
  unfold f_43 at hq
  try dsimp only at hq
  refine am_E.run [] 2000 (show (if x0 < 48 then (((0 : Int32) = 0 ∨ (0 : Int32) = 1) ∧ Q (some (.int 0)) (N, am_ts T, I, L, am_rs r)) else (if (57 : Int32) < x0 then (((0 : Int32) = 0 ∨ (0 : Int32) = 1) ∧ Q (some (.int 0)) (N, am_ts T, I, L, am_rs r)) else (((1 : Int32) = 0 ∨ (1 : Int32) = 1) ∧ Q (some (.int 1)) (N, am_ts T, I, L, am_rs r)))) from ?_)
  by_cases hc : x0 < 48
  · rw [if_pos hc] at hq ⊢
    exact ⟨Or.inl rfl, hq⟩
  · rw [if_neg hc] at hq ⊢
    by_cases hc : (57 : Int32) < x0
    · rw [if_pos hc] at hq ⊢
      exact ⟨Or.inl rfl, hq⟩
    · rw [if_neg hc] at hq ⊢
      exact ⟨Or.inr rfl, hq⟩
theorem b_43 {x0 : Int32} : (f_43 x0) = 0 ∨ (f_43 x0) = 1 := by
  unfold f_43
  (repeat' split) <;> first | exact Or.inl rfl | exact Or.inr rfl
/-- java/lang/String.coder()B -/
def w_47 (K : Int32 → Prop) : Prop :=
  K 0
set_option maxRecDepth 100000 in
theorem s_47 {S : am_S} {d : Nat} {N : Nat} {T : Nat → Nat × Nat} {I : am_I} {L : am_J} {r : Nat → Nat → Option Nat} {Q : am_Q} {K : Int32 → Prop} (hw : w_47 K) (hK : ∀ (q : Int32), K q → Q (some (.int q)) (N, am_ts T, I, L, am_rs r)) : am_E S 47 (d + 0) 0 0 0 [.retAddr 2] [] (N, am_ts T, I, L, am_rs r) Q := by
  unfold w_47 at hw
  try dsimp only at hw
  refine am_E.run [] 2000 (show (narrow .byte (.int 0) = .int 0 ∧ Q (some (.int 0)) (N, am_ts T, I, L, am_rs r)) from ?_)
  exact ⟨rfl, hK _ hw⟩
/-- java/lang/String.isLatin1()Z -/
def f_49 : Int32 :=
  1
set_option maxRecDepth 100000 in
theorem s_49 {S : am_S} {d : Nat} {N : Nat} {T : Nat → Nat × Nat} {I : am_I} {L : am_J} {r : Nat → Nat → Option Nat} {Q : am_Q} (hq : Q (some (.int f_49)) (N, am_ts T, I, L, am_rs r)) : am_E S 49 (d + 0) 0 0 0 [.retAddr 2] [] (N, am_ts T, I, L, am_rs r) Q := by
  unfold f_49 at hq
  try dsimp only at hq
  refine am_E.run [] 2000 (show (((1 : Int32) = 0 ∨ (1 : Int32) = 1) ∧ Q (some (.int 1)) (N, am_ts T, I, L, am_rs r)) from ?_)
  exact ⟨Or.inr rfl, hq⟩
theorem b_49 : f_49 = 0 ∨ f_49 = 1 := by
  unfold f_49
  (repeat' split) <;> first | exact Or.inl rfl | exact Or.inr rfl
/-- jdk/internal/util/Preconditions.checkIndex(IILjava/util/function/BiFunction;)I -/
def w_52 (x0 : Int32) (x1 : Int32) (K : Int32 → Prop) : Prop :=
  ¬ (x0 < 0) ∧
  (x0 < x1) ∧
  K x0
set_option maxRecDepth 100000 in
theorem s_52 {S : am_S} {d : Nat} {N : Nat} {T : Nat → Nat × Nat} {I : am_I} {L : am_J} {r : Nat → Nat → Option Nat} {Q : am_Q} {x0 : Int32} {x1 : Int32} {K : Int32 → Prop} (hw : w_52 x0 x1 K) (hK : ∀ (q : Int32), K q → Q (some (.int q)) (N, am_ts T, I, L, am_rs r)) : am_E S 52 (d + 0) 0 0 0 [.int x0, .int x1, .retAddr 5] [] (N, am_ts T, I, L, am_rs r) Q := by
  unfold w_52 at hw
  try dsimp only at hw
  refine am_E.run [] 2000 (show (if x0 < 0 then False else (if x0 < x1 then (True ∧ Q (some (.int x0)) (N, am_ts T, I, L, am_rs r)) else False)) from ?_)
  refine am_ifn hw.1 ?_
  replace hw := hw.2
  refine am_ifp hw.1 ?_
  replace hw := hw.2
  exact ⟨trivial, hK _ hw⟩
/-- KeyKeepers$Text.empty()V -/
def w_54 (I : am_I) (K : am_I → Prop) : Prop :=
  K (am_u (am_u I 16 1 0) 16 2 0)
set_option maxRecDepth 100000 in
theorem s_54 {S : am_S} {d : Nat} {N : Nat} {T : Nat → Nat × Nat} {I : am_I} {L : am_J} {r : Nat → Nat → Option Nat} {Q : am_Q} {K : am_I → Prop} (hw : w_54 I K) (hK : ∀ (I1 : am_I), K I1 → Q (none) (N, am_ts T, I1, L, am_rs r)) : am_E S 54 (d + 0) 0 0 0 [.ref 16] [] (N, am_ts T, I, L, am_rs r) Q := by
  unfold w_54 at hw
  try dsimp only at hw
  refine am_E.run [] 2000 (show (True ∧ Q (none) (N, am_ts T, (am_u (am_u I 16 1 0) 16 2 0), L, am_rs r)) from ?_)
  exact ⟨trivial, hK _ hw⟩
def lw_57_2 : Nat → Int32 → am_I → (Int32 → am_I → Prop) → Prop
  | 0, _, _, _ => False
  | n + 1, v2, I, E0 =>
    if (5 : Int32) ≤ v2 then
      E0 v2 I
    else
      if ((((I 16 2) - 1) * 5) + v2) < 0 then
        lw_57_2 n (v2 + 1) I E0
      else
        if (Int32.ofNat 60) ≤ ((((I 16 2) - 1) * 5) + v2) then
          lw_57_2 n (v2 + 1) I E0
        else
          ¬ (((((I 16 2) - 1) * 5) + v2) < 0 ∨ 60 ≤ Int32.toNatClampNeg ((((I 16 2) - 1) * 5) + v2)) ∧
          lw_57_2 n (v2 + 1) (am_u I 20 (Int32.toNatClampNeg ((((I 16 2) - 1) * 5) + v2)) (I 16 1)) E0
set_option maxRecDepth 100000 in
theorem sl_57_2 {S : am_S} {d : Nat} {Q : am_Q} {N : Nat} {T : Nat → Nat × Nat} {L : am_J} {r : Nat → Nat → Option Nat} {E0 : Int32 → am_I → Prop} : ∀ (n : Nat) {v2 : Int32} {I : am_I}, lw_57_2 n v2 I E0 → (∀ (o2 : Int32) (I1 : am_I), E0 o2 I1 → am_E S 57 (d + 0) 0 0 47 [.ref 16, am_jk, .int o2, am_jk] [] (N, am_ts T, I1, L, am_rs r) Q) → am_E S 57 (d + 0) 0 0 2 [.ref 16, am_jk, .int v2, am_jk] [] (N, am_ts T, I, L, am_rs r) Q
  | 0, _, _, hw, _ => hw.elim
  | n + 1, v2, I, hw, hE0 => by
    have ih := @sl_57_2 S d Q N T L r E0 n
    unfold lw_57_2 at hw
    try dsimp only at hw
    refine am_E.run [2, 47] 2000 (show (if (5 : Int32) ≤ v2 then (am_E S 57 (d + 0) 0 0 47 [.ref 16, am_jk, .int v2, am_jk] [] (N, am_ts T, I, L, am_rs r) Q) else (if ((((I 16 2) - 1) * 5) + v2) < 0 then (am_E S 57 (d + 0) 0 0 2 [.ref 16, am_jk, .int (v2 + 1), .int ((((I 16 2) - 1) * 5) + v2)] [] (N, am_ts T, I, L, am_rs r) Q) else (if (Int32.ofNat 60) ≤ ((((I 16 2) - 1) * 5) + v2) then (am_E S 57 (d + 0) 0 0 2 [.ref 16, am_jk, .int (v2 + 1), .int ((((I 16 2) - 1) * 5) + v2)] [] (N, am_ts T, I, L, am_rs r) Q) else (if ((((I 16 2) - 1) * 5) + v2) < 0 ∨ 60 ≤ Int32.toNatClampNeg ((((I 16 2) - 1) * 5) + v2) then False else (am_E S 57 (d + 0) 0 0 2 [.ref 16, am_jk, .int (v2 + 1), .int ((((I 16 2) - 1) * 5) + v2)] [] (N, am_ts T, (am_u I 20 (Int32.toNatClampNeg ((((I 16 2) - 1) * 5) + v2)) (I 16 1)), L, am_rs r) Q))))) from ?_)
    by_cases hc : (5 : Int32) ≤ v2
    · rw [if_pos hc] at hw ⊢
      exact hE0 _ _ hw
    · rw [if_neg hc] at hw ⊢
      by_cases hc : ((((I 16 2) - 1) * 5) + v2) < 0
      · rw [if_pos hc] at hw ⊢
        exact am_E.junk (ih hw hE0) (am_le.cons (am_le.cons (am_le.cons (am_le.jk am_le.nil))))
      · rw [if_neg hc] at hw ⊢
        by_cases hc : (Int32.ofNat 60) ≤ ((((I 16 2) - 1) * 5) + v2)
        · rw [if_pos hc] at hw ⊢
          exact am_E.junk (ih hw hE0) (am_le.cons (am_le.cons (am_le.cons (am_le.jk am_le.nil))))
        · rw [if_neg hc] at hw ⊢
          refine am_ifn hw.1 ?_
          replace hw := hw.2
          exact am_E.junk (ih hw hE0) (am_le.cons (am_le.cons (am_le.cons (am_le.jk am_le.nil))))
/-- KeyKeepers$Text.markFrom(I)V -/
def w_57 (x0 : Int32) (I : am_I) (K : am_I → Prop) : Prop :=
  ∃ n2, lw_57_2 n2 x0 I (fun o1 I2 =>
    K I2)
set_option maxRecDepth 100000 in
theorem s_57 {S : am_S} {d : Nat} {N : Nat} {T : Nat → Nat × Nat} {I : am_I} {L : am_J} {r : Nat → Nat → Option Nat} {Q : am_Q} {x0 : Int32} {K : am_I → Prop} (hw : w_57 x0 I K) (hK : ∀ (I1 : am_I), K I1 → Q (none) (N, am_ts T, I1, L, am_rs r)) : am_E S 57 (d + 0) 0 0 0 [.ref 16, .int x0, am_jk, am_jk] [] (N, am_ts T, I, L, am_rs r) Q := by
  unfold w_57 at hw
  try dsimp only at hw
  refine am_E.run [2] 2000 (show (am_E S 57 (d + 0) 0 0 2 [.ref 16, .int x0, .int x0, am_jk] [] (N, am_ts T, I, L, am_rs r) Q) from ?_)
  obtain ⟨n2, hw⟩ := hw
  refine am_E.junk (lo := [.ref 16, am_jk, .int x0, am_jk]) ?_ (am_le.cons (am_le.jk (am_le.cons (am_le.cons am_le.nil))))
  refine sl_57_2 n2 hw (fun o1 I2 hw => ?_)
  · try dsimp only at hw
    refine am_E.run [] 2000 (show (True ∧ Q (none) (N, am_ts T, I2, L, am_rs r)) from ?_)
    exact ⟨trivial, hK _ hw⟩
/-- KeyKeepers$Reader.advance()V -/
def w_58 (I : am_I) (K : am_I → Prop) : Prop :=
  if (I 14 8) = 3000000 then
    K I
  else
    if (400 : Int32) ≤ (I 14 7) then
      K I
    else
      ¬ (((I 14 7) + 1) < 0 ∨ 401 ≤ Int32.toNatClampNeg ((I 14 7) + 1)) ∧
      K (am_u (am_u I 14 7 ((I 14 7) + 1)) 14 8 (I 21 (Int32.toNatClampNeg ((I 14 7) + 1))))
set_option maxRecDepth 100000 in
theorem s_58 {S : am_S} {d : Nat} {N : Nat} {T : Nat → Nat × Nat} {I : am_I} {L : am_J} {r : Nat → Nat → Option Nat} {Q : am_Q} {K : am_I → Prop} (hw : w_58 I K) (hK : ∀ (I1 : am_I), K I1 → Q (none) (N, am_ts T, I1, L, am_rs r)) : am_E S 58 (d + 0) 0 0 0 [.ref 14] [] (N, am_ts T, I, L, am_rs r) Q := by
  unfold w_58 at hw
  try dsimp only at hw
  refine am_E.run [] 2000 (show (if (I 14 8) = 3000000 then (True ∧ Q (none) (N, am_ts T, I, L, am_rs r)) else (if (400 : Int32) ≤ (I 14 7) then (True ∧ Q (none) (N, am_ts T, I, L, am_rs r)) else (if ((I 14 7) + 1) < 0 ∨ 401 ≤ Int32.toNatClampNeg ((I 14 7) + 1) then False else (True ∧ Q (none) (N, am_ts T, (am_u (am_u I 14 7 ((I 14 7) + 1)) 14 8 (I 21 (Int32.toNatClampNeg ((I 14 7) + 1)))), L, am_rs r))))) from ?_)
  by_cases hc : (I 14 8) = 3000000
  · rw [if_pos hc] at hw ⊢
    exact ⟨trivial, hK _ hw⟩
  · rw [if_neg hc] at hw ⊢
    by_cases hc : (400 : Int32) ≤ (I 14 7)
    · rw [if_pos hc] at hw ⊢
      exact ⟨trivial, hK _ hw⟩
    · rw [if_neg hc] at hw ⊢
      refine am_ifn hw.1 ?_
      replace hw := hw.2
      exact ⟨trivial, hK _ hw⟩
/-- KeyKeepers$Reader.readToken(I)Z -/
def w_62 (x0 : Int32) (I : am_I) (K : Int32 → am_I → Prop) : Prop :=
  if (I 14 8) = x0 then
    w_58 I (fun I1 =>
      K 1 I1)
  else
    K 0 I
set_option maxRecDepth 100000 in
theorem s_62 {S : am_S} {d : Nat} {N : Nat} {T : Nat → Nat × Nat} {I : am_I} {L : am_J} {r : Nat → Nat → Option Nat} {Q : am_Q} {x0 : Int32} {K : Int32 → am_I → Prop} (hw : w_62 x0 I K) (hK : ∀ (q : Int32) (I1 : am_I), K q I1 → Q (some (.int q)) (N, am_ts T, I1, L, am_rs r)) : am_E S 62 (d + 1) 0 0 0 [.ref 14, .int x0] [] (N, am_ts T, I, L, am_rs r) Q := by
  unfold w_62 at hw
  try dsimp only at hw
  refine am_E.run [11] 2000 (show (if (I 14 8) = x0 then (am_E S 62 (d + 1) 0 0 11 [.ref 14, .int x0] [.ref 14] (N, am_ts T, I, L, am_rs r) Q) else (((0 : Int32) = 0 ∨ (0 : Int32) = 1) ∧ Q (some (.int 0)) (N, am_ts T, I, L, am_rs r))) from ?_)
  by_cases hc : (I 14 8) = x0
  · rw [if_pos hc] at hw ⊢
    refine am_E.go ⟨am_kv_I N T L r _, s_58 hw (fun I1 hk => ⟨I1, rfl, rfl, hk⟩), ?_⟩
    intro v h9 hv
    obtain ⟨I1, rfl, rfl, hw⟩ := hv
    try dsimp only at hw
    refine am_E.run [] 2000 (show (((1 : Int32) = 0 ∨ (1 : Int32) = 1) ∧ Q (some (.int 1)) (N, am_ts T, I1, L, am_rs r)) from ?_)
    exact ⟨Or.inr rfl, hK _ _ hw⟩
  · rw [if_neg hc] at hw ⊢
    exact ⟨Or.inl rfl, hK _ _ hw⟩
/-- KeyKeepers$Reader.isAskedWord(I)Z -/
def f_63 (x0 : Int32) (I : am_I) : Int32 :=
  if (I 14 4) = 0 then
    if x0 = 23 then
      1
    else
      if (f_13 x0 26 31) = 0 then
        0
      else
        1
  else
    (f_13 x0 16 25)
set_option maxRecDepth 100000 in
theorem s_63 {S : am_S} {d : Nat} {N : Nat} {T : Nat → Nat × Nat} {I : am_I} {L : am_J} {r : Nat → Nat → Option Nat} {Q : am_Q} {x0 : Int32} (hq : Q (some (.int (f_63 x0 I))) (N, am_ts T, I, L, am_rs r)) : am_E S 63 (d + 1) 0 0 0 [.ref 14, .int x0] [] (N, am_ts T, I, L, am_rs r) Q := by
  unfold f_63 at hq
  try dsimp only at hq
  refine am_E.run [12, 27] 2000 (show (if (I 14 4) = 0 then (if x0 = 23 then (((1 : Int32) = 0 ∨ (1 : Int32) = 1) ∧ Q (some (.int 1)) (N, am_ts T, I, L, am_rs r)) else (am_E S 63 (d + 1) 0 0 27 [.ref 14, .int x0] [.int 31, .int 26, .int x0] (N, am_ts T, I, L, am_rs r) Q)) else (am_E S 63 (d + 1) 0 0 12 [.ref 14, .int x0] [.int 25, .int 16, .int x0] (N, am_ts T, I, L, am_rs r) Q)) from ?_)
  by_cases hc : (I 14 4) = 0
  · rw [if_pos hc] at hq ⊢
    by_cases hc : x0 = 23
    · rw [if_pos hc] at hq ⊢
      exact ⟨Or.inr rfl, hq⟩
    · rw [if_neg hc] at hq ⊢
      refine am_E.go ⟨fun v h9 => v = some (.int (f_13 x0 26 31)) ∧ h9 = (N, am_ts T, I, L, am_rs r), s_13 ⟨rfl, rfl⟩, ?_⟩
      intro v h9 hv
      obtain ⟨rfl, rfl⟩ := hv
      refine am_E.run [] 2000 (show (if (f_13 x0 26 31) = 0 then (((0 : Int32) = 0 ∨ (0 : Int32) = 1) ∧ Q (some (.int 0)) (N, am_ts T, I, L, am_rs r)) else (((1 : Int32) = 0 ∨ (1 : Int32) = 1) ∧ Q (some (.int 1)) (N, am_ts T, I, L, am_rs r))) from ?_)
      by_cases hc : (f_13 x0 26 31) = 0
      · rw [if_pos hc] at hq ⊢
        exact ⟨Or.inl rfl, hq⟩
      · rw [if_neg hc] at hq ⊢
        exact ⟨Or.inr rfl, hq⟩
  · rw [if_neg hc] at hq ⊢
    refine am_E.go ⟨fun v h9 => v = some (.int (f_13 x0 16 25)) ∧ h9 = (N, am_ts T, I, L, am_rs r), s_13 ⟨rfl, rfl⟩, ?_⟩
    intro v h9 hv
    obtain ⟨rfl, rfl⟩ := hv
    refine am_E.run [] 2000 (show (((f_13 x0 16 25) = 0 ∨ (f_13 x0 16 25) = 1) ∧ Q (some (.int (f_13 x0 16 25))) (N, am_ts T, I, L, am_rs r)) from ?_)
    exact ⟨b_13, hq⟩
theorem b_63 {x0 : Int32} {I : am_I} : (f_63 x0 I) = 0 ∨ (f_63 x0 I) = 1 := by
  unfold f_63
  (repeat' split) <;> first | exact Or.inl rfl | exact Or.inr rfl | exact b_13
/-- KeyKeepers$Text.emit(II)I -/
def w_64 (x0 : Int32) (x1 : Int32) (I : am_I) (K : Int32 → am_I → Prop) : Prop :=
  if (I 16 1) < (Int32.ofNat 400) then
    ¬ ((I 16 1) < 0 ∨ 400 ≤ Int32.toNatClampNeg (I 16 1)) ∧
    K (I 16 1) (am_u (am_u I 17 (Int32.toNatClampNeg (I 16 1)) (x0 + (16 * x1))) 16 1 ((I 16 1) + 1))
  else
    K (-1) I
set_option maxRecDepth 100000 in
theorem s_64 {S : am_S} {d : Nat} {N : Nat} {T : Nat → Nat × Nat} {I : am_I} {L : am_J} {r : Nat → Nat → Option Nat} {Q : am_Q} {x0 : Int32} {x1 : Int32} {K : Int32 → am_I → Prop} (hw : w_64 x0 x1 I K) (hK : ∀ (q : Int32) (I1 : am_I), K q I1 → Q (some (.int q)) (N, am_ts T, I1, L, am_rs r)) : am_E S 64 (d + 0) 0 0 0 [.ref 16, .int x0, .int x1] [] (N, am_ts T, I, L, am_rs r) Q := by
  unfold w_64 at hw
  try dsimp only at hw
  refine am_E.run [] 2000 (show (if (I 16 1) < (Int32.ofNat 400) then (if (I 16 1) < 0 ∨ 400 ≤ Int32.toNatClampNeg (I 16 1) then False else (True ∧ Q (some (.int (I 16 1))) (N, am_ts T, (am_u (am_u I 17 (Int32.toNatClampNeg (I 16 1)) (x0 + (16 * x1))) 16 1 ((I 16 1) + 1)), L, am_rs r))) else (True ∧ Q (some (.int (-1))) (N, am_ts T, I, L, am_rs r))) from ?_)
  by_cases hc : (I 16 1) < (Int32.ofNat 400)
  · rw [if_pos hc] at hw ⊢
    refine am_ifn hw.1 ?_
    replace hw := hw.2
    exact ⟨trivial, hK _ _ hw⟩
  · rw [if_neg hc] at hw ⊢
    exact ⟨trivial, hK _ _ hw⟩
/-- KeyKeepers$Reader.readAskedWord()Z -/
def w_65 (I : am_I) (K : Int32 → am_I → Prop) : Prop :=
  w_58 I (fun I1 =>
    if ((I 14 8) - 1000000) = 30 then
      if (f_13 (I1 14 8) 0 7) = 0 then
        K 0 I1
      else
        w_58 I1 (fun I2 =>
          if ((I 14 8) - 1000000) = 30 then
            w_64 2 (I1 14 8) I2 (fun q6 I7 =>
              K 1 I7)
          else
            if (f_13 (I2 14 8) 0 11) = 0 then
              K 0 I2
            else
              w_64 3 (((I1 14 8) * 12) + (I2 14 8)) I2 (fun q3 I4 =>
                w_58 I4 (fun I5 =>
                  K 1 I5)))
    else
      if ((I 14 8) - 1000000) = 31 then
        if (f_13 (I1 14 8) 0 7) = 0 then
          K 0 I1
        else
          w_58 I1 (fun I8 =>
            if ((I 14 8) - 1000000) = 30 then
              w_64 2 (I1 14 8) I8 (fun q12 I13 =>
                K 1 I13)
            else
              if (f_13 (I8 14 8) 0 11) = 0 then
                K 0 I8
              else
                w_64 3 (((I1 14 8) * 12) + (I8 14 8)) I8 (fun q9 I10 =>
                  w_58 I10 (fun I11 =>
                    K 1 I11)))
      else
        w_64 1 (((I 14 8) - 1000000) - 16) I1 (fun q14 I15 =>
          K 1 I15))
set_option maxRecDepth 100000 in
theorem s_65 {S : am_S} {d : Nat} {N : Nat} {T : Nat → Nat × Nat} {I : am_I} {L : am_J} {r : Nat → Nat → Option Nat} {Q : am_Q} {K : Int32 → am_I → Prop} (hw : w_65 I K) (hK : ∀ (q : Int32) (I1 : am_I), K q I1 → Q (some (.int q)) (N, am_ts T, I1, L, am_rs r)) : am_E S 65 (d + 1) 0 0 0 [.ref 14, am_jk, am_jk] [] (N, am_ts T, I, L, am_rs r) Q := by
  unfold w_65 at hw
  try dsimp only at hw
  refine am_E.run [9] 2000 (show (am_E S 65 (d + 1) 0 0 9 [.ref 14, .int ((I 14 8) - 1000000), am_jk] [.ref 14] (N, am_ts T, I, L, am_rs r) Q) from ?_)
  refine am_E.go ⟨am_kv_I N T L r _, s_58 hw (fun I1 hk => ⟨I1, rfl, rfl, hk⟩), ?_⟩
  intro v h9 hv
  obtain ⟨I1, rfl, rfl, hw⟩ := hv
  try dsimp only at hw
  refine am_E.run [33, 48] 2000 (show (if ((I 14 8) - 1000000) = 30 then (am_E S 65 (d + 1) 0 0 48 [.ref 14, .int ((I 14 8) - 1000000), .int (I1 14 8)] [.int 7, .int 0, .int (I1 14 8)] (N, am_ts T, I1, L, am_rs r) Q) else (if ((I 14 8) - 1000000) = 31 then (am_E S 65 (d + 1) 0 0 48 [.ref 14, .int ((I 14 8) - 1000000), .int (I1 14 8)] [.int 7, .int 0, .int (I1 14 8)] (N, am_ts T, I1, L, am_rs r) Q) else (am_E S 65 (d + 1) 0 0 33 [.ref 14, .int ((I 14 8) - 1000000), am_jk] [.int (((I 14 8) - 1000000) - 16), .int 1, .ref 16] (N, am_ts T, I1, L, am_rs r) Q))) from ?_)
  by_cases hc : ((I 14 8) - 1000000) = 30
  · rw [if_pos hc] at hw ⊢
    refine am_E.go ⟨fun v h9 => v = some (.int (f_13 (I1 14 8) 0 7)) ∧ h9 = (N, am_ts T, I1, L, am_rs r), s_13 ⟨rfl, rfl⟩, ?_⟩
    intro v h9 hv
    obtain ⟨rfl, rfl⟩ := hv
    refine am_E.run [57] 2000 (show (if (f_13 (I1 14 8) 0 7) = 0 then (((0 : Int32) = 0 ∨ (0 : Int32) = 1) ∧ Q (some (.int 0)) (N, am_ts T, I1, L, am_rs r)) else (am_E S 65 (d + 1) 0 0 57 [.ref 14, .int ((I 14 8) - 1000000), .int (I1 14 8)] [.ref 14] (N, am_ts T, I1, L, am_rs r) Q)) from ?_)
    by_cases hc : (f_13 (I1 14 8) 0 7) = 0
    · rw [if_pos hc] at hw ⊢
      exact ⟨Or.inl rfl, hK _ _ hw⟩
    · rw [if_neg hc] at hw ⊢
      refine am_E.go ⟨am_kv_I N T L r _, s_58 hw (fun I2 hk => ⟨I2, rfl, rfl, hk⟩), ?_⟩
      intro v h9 hv
      obtain ⟨I2, rfl, rfl, hw⟩ := hv
      try dsimp only at hw
      refine am_E.run [72, 85] 2000 (show (if ((I 14 8) - 1000000) = 30 then (am_E S 65 (d + 1) 0 0 72 [.ref 14, .int ((I 14 8) - 1000000), .int (I1 14 8)] [.int (I1 14 8), .int 2, .ref 16] (N, am_ts T, I2, L, am_rs r) Q) else (am_E S 65 (d + 1) 0 0 85 [.ref 14, .int ((I 14 8) - 1000000), .int (I1 14 8)] [.int 11, .int 0, .int (I2 14 8)] (N, am_ts T, I2, L, am_rs r) Q)) from ?_)
      by_cases hc : ((I 14 8) - 1000000) = 30
      · rw [if_pos hc] at hw ⊢
        refine am_E.go ⟨am_ki_I N T L r _, s_64 hw (fun q6 I7 hk => ⟨q6, I7, rfl, rfl, hk⟩), ?_⟩
        intro v h9 hv
        obtain ⟨q6, I7, rfl, rfl, hw⟩ := hv
        try dsimp only at hw
        refine am_E.run [] 2000 (show (((1 : Int32) = 0 ∨ (1 : Int32) = 1) ∧ Q (some (.int 1)) (N, am_ts T, I7, L, am_rs r)) from ?_)
        exact ⟨Or.inr rfl, hK _ _ hw⟩
      · rw [if_neg hc] at hw ⊢
        refine am_E.go ⟨fun v h9 => v = some (.int (f_13 (I2 14 8) 0 11)) ∧ h9 = (N, am_ts T, I2, L, am_rs r), s_13 ⟨rfl, rfl⟩, ?_⟩
        intro v h9 hv
        obtain ⟨rfl, rfl⟩ := hv
        refine am_E.run [107] 2000 (show (if (f_13 (I2 14 8) 0 11) = 0 then (((0 : Int32) = 0 ∨ (0 : Int32) = 1) ∧ Q (some (.int 0)) (N, am_ts T, I2, L, am_rs r)) else (am_E S 65 (d + 1) 0 0 107 [.ref 14, .int ((I 14 8) - 1000000), .int (I1 14 8)] [.int (((I1 14 8) * 12) + (I2 14 8)), .int 3, .ref 16] (N, am_ts T, I2, L, am_rs r) Q)) from ?_)
        by_cases hc : (f_13 (I2 14 8) 0 11) = 0
        · rw [if_pos hc] at hw ⊢
          exact ⟨Or.inl rfl, hK _ _ hw⟩
        · rw [if_neg hc] at hw ⊢
          refine am_E.go ⟨am_ki_I N T L r _, s_64 hw (fun q3 I4 hk => ⟨q3, I4, rfl, rfl, hk⟩), ?_⟩
          intro v h9 hv
          obtain ⟨q3, I4, rfl, rfl, hw⟩ := hv
          try dsimp only at hw
          refine am_E.run [112] 2000 (show (am_E S 65 (d + 1) 0 0 112 [.ref 14, .int ((I 14 8) - 1000000), .int (I1 14 8)] [.ref 14] (N, am_ts T, I4, L, am_rs r) Q) from ?_)
          refine am_E.go ⟨am_kv_I N T L r _, s_58 hw (fun I5 hk => ⟨I5, rfl, rfl, hk⟩), ?_⟩
          intro v h9 hv
          obtain ⟨I5, rfl, rfl, hw⟩ := hv
          try dsimp only at hw
          refine am_E.run [] 2000 (show (((1 : Int32) = 0 ∨ (1 : Int32) = 1) ∧ Q (some (.int 1)) (N, am_ts T, I5, L, am_rs r)) from ?_)
          exact ⟨Or.inr rfl, hK _ _ hw⟩
  · rw [if_neg hc] at hw ⊢
    by_cases hc : ((I 14 8) - 1000000) = 31
    · rw [if_pos hc] at hw ⊢
      refine am_E.go ⟨fun v h9 => v = some (.int (f_13 (I1 14 8) 0 7)) ∧ h9 = (N, am_ts T, I1, L, am_rs r), s_13 ⟨rfl, rfl⟩, ?_⟩
      intro v h9 hv
      obtain ⟨rfl, rfl⟩ := hv
      refine am_E.run [57] 2000 (show (if (f_13 (I1 14 8) 0 7) = 0 then (((0 : Int32) = 0 ∨ (0 : Int32) = 1) ∧ Q (some (.int 0)) (N, am_ts T, I1, L, am_rs r)) else (am_E S 65 (d + 1) 0 0 57 [.ref 14, .int ((I 14 8) - 1000000), .int (I1 14 8)] [.ref 14] (N, am_ts T, I1, L, am_rs r) Q)) from ?_)
      by_cases hc : (f_13 (I1 14 8) 0 7) = 0
      · rw [if_pos hc] at hw ⊢
        exact ⟨Or.inl rfl, hK _ _ hw⟩
      · rw [if_neg hc] at hw ⊢
        refine am_E.go ⟨am_kv_I N T L r _, s_58 hw (fun I8 hk => ⟨I8, rfl, rfl, hk⟩), ?_⟩
        intro v h9 hv
        obtain ⟨I8, rfl, rfl, hw⟩ := hv
        try dsimp only at hw
        refine am_E.run [72, 85] 2000 (show (if ((I 14 8) - 1000000) = 30 then (am_E S 65 (d + 1) 0 0 72 [.ref 14, .int ((I 14 8) - 1000000), .int (I1 14 8)] [.int (I1 14 8), .int 2, .ref 16] (N, am_ts T, I8, L, am_rs r) Q) else (am_E S 65 (d + 1) 0 0 85 [.ref 14, .int ((I 14 8) - 1000000), .int (I1 14 8)] [.int 11, .int 0, .int (I8 14 8)] (N, am_ts T, I8, L, am_rs r) Q)) from ?_)
        by_cases hc : ((I 14 8) - 1000000) = 30
        · rw [if_pos hc] at hw ⊢
          refine am_E.go ⟨am_ki_I N T L r _, s_64 hw (fun q12 I13 hk => ⟨q12, I13, rfl, rfl, hk⟩), ?_⟩
          intro v h9 hv
          obtain ⟨q12, I13, rfl, rfl, hw⟩ := hv
          try dsimp only at hw
          refine am_E.run [] 2000 (show (((1 : Int32) = 0 ∨ (1 : Int32) = 1) ∧ Q (some (.int 1)) (N, am_ts T, I13, L, am_rs r)) from ?_)
          exact ⟨Or.inr rfl, hK _ _ hw⟩
        · rw [if_neg hc] at hw ⊢
          refine am_E.go ⟨fun v h9 => v = some (.int (f_13 (I8 14 8) 0 11)) ∧ h9 = (N, am_ts T, I8, L, am_rs r), s_13 ⟨rfl, rfl⟩, ?_⟩
          intro v h9 hv
          obtain ⟨rfl, rfl⟩ := hv
          refine am_E.run [107] 2000 (show (if (f_13 (I8 14 8) 0 11) = 0 then (((0 : Int32) = 0 ∨ (0 : Int32) = 1) ∧ Q (some (.int 0)) (N, am_ts T, I8, L, am_rs r)) else (am_E S 65 (d + 1) 0 0 107 [.ref 14, .int ((I 14 8) - 1000000), .int (I1 14 8)] [.int (((I1 14 8) * 12) + (I8 14 8)), .int 3, .ref 16] (N, am_ts T, I8, L, am_rs r) Q)) from ?_)
          by_cases hc : (f_13 (I8 14 8) 0 11) = 0
          · rw [if_pos hc] at hw ⊢
            exact ⟨Or.inl rfl, hK _ _ hw⟩
          · rw [if_neg hc] at hw ⊢
            refine am_E.go ⟨am_ki_I N T L r _, s_64 hw (fun q9 I10 hk => ⟨q9, I10, rfl, rfl, hk⟩), ?_⟩
            intro v h9 hv
            obtain ⟨q9, I10, rfl, rfl, hw⟩ := hv
            try dsimp only at hw
            refine am_E.run [112] 2000 (show (am_E S 65 (d + 1) 0 0 112 [.ref 14, .int ((I 14 8) - 1000000), .int (I1 14 8)] [.ref 14] (N, am_ts T, I10, L, am_rs r) Q) from ?_)
            refine am_E.go ⟨am_kv_I N T L r _, s_58 hw (fun I11 hk => ⟨I11, rfl, rfl, hk⟩), ?_⟩
            intro v h9 hv
            obtain ⟨I11, rfl, rfl, hw⟩ := hv
            try dsimp only at hw
            refine am_E.run [] 2000 (show (((1 : Int32) = 0 ∨ (1 : Int32) = 1) ∧ Q (some (.int 1)) (N, am_ts T, I11, L, am_rs r)) from ?_)
            exact ⟨Or.inr rfl, hK _ _ hw⟩
    · rw [if_neg hc] at hw ⊢
      refine am_E.go ⟨am_ki_I N T L r _, s_64 hw (fun q14 I15 hk => ⟨q14, I15, rfl, rfl, hk⟩), ?_⟩
      intro v h9 hv
      obtain ⟨q14, I15, rfl, rfl, hw⟩ := hv
      try dsimp only at hw
      refine am_E.run [] 2000 (show (((1 : Int32) = 0 ∨ (1 : Int32) = 1) ∧ Q (some (.int 1)) (N, am_ts T, I15, L, am_rs r)) from ?_)
      exact ⟨Or.inr rfl, hK _ _ hw⟩
/-- KeyKeepers$Reader.signOp()I -/
def f_66 (I : am_I) : Int32 :=
  if (I 14 8) = 2000037 then
    8
  else
  if (I 14 8) = 2000038 then
    (-1)
  else
  if (I 14 8) = 2000039 then
    (-1)
  else
  if (I 14 8) = 2000040 then
    (-1)
  else
  if (I 14 8) = 2000041 then
    (-1)
  else
  if (I 14 8) = 2000042 then
    6
  else
  if (I 14 8) = 2000043 then
    4
  else
  if (I 14 8) = 2000044 then
    (-1)
  else
  if (I 14 8) = 2000045 then
    5
  else
  if (I 14 8) = 2000046 then
    (-1)
  else
  if (I 14 8) = 2000047 then
    7
  else
  if (I 14 8) = 2000048 then
    (-1)
  else
  if (I 14 8) = 2000049 then
    (-1)
  else
  if (I 14 8) = 2000050 then
    (-1)
  else
  if (I 14 8) = 2000051 then
    (-1)
  else
  if (I 14 8) = 2000052 then
    (-1)
  else
  if (I 14 8) = 2000053 then
    (-1)
  else
  if (I 14 8) = 2000054 then
    (-1)
  else
  if (I 14 8) = 2000055 then
    (-1)
  else
  if (I 14 8) = 2000056 then
    (-1)
  else
  if (I 14 8) = 2000057 then
    (-1)
  else
  if (I 14 8) = 2000058 then
    (-1)
  else
  if (I 14 8) = 2000059 then
    (-1)
  else
  if (I 14 8) = 2000060 then
    9
  else
  if (I 14 8) = 2000061 then
    11
  else
  if (I 14 8) = 2000062 then
    10
  else
  (-1)
set_option maxRecDepth 100000 in
theorem s_66 {S : am_S} {d : Nat} {N : Nat} {T : Nat → Nat × Nat} {I : am_I} {L : am_J} {r : Nat → Nat → Option Nat} {Q : am_Q} (hq : Q (some (.int (f_66 I))) (N, am_ts T, I, L, am_rs r)) : am_E S 66 (d + 0) 0 0 0 [.ref 14] [] (N, am_ts T, I, L, am_rs r) Q := by
  unfold f_66 at hq
  try dsimp only at hq
  refine am_E.run [4] 2000 (show (am_E S 66 (d + 0) 0 0 4 [.ref 14] [.int (I 14 8)] (N, am_ts T, I, L, am_rs r) Q) from ?_)
  by_cases hc0 : (I 14 8) = 2000037
  · rw [if_pos hc0] at hq
    refine am_E.swap (k := 2000037) hc0 ?_
    refine am_E.go (show (am_E S 66 (d + 0) 0 0 134 [.ref 14] [] (N, am_ts T, I, L, am_rs r) Q) from ?_)
    refine am_E.run [] 2000 (show (True ∧ Q (some (.int 8)) (N, am_ts T, I, L, am_rs r)) from ?_)
    exact ⟨trivial, hq⟩
  rw [if_neg hc0] at hq
  by_cases hc1 : (I 14 8) = 2000038
  · rw [if_pos hc1] at hq
    refine am_E.swap (k := 2000038) hc1 ?_
    refine am_E.go (show (am_E S 66 (d + 0) 0 0 146 [.ref 14] [] (N, am_ts T, I, L, am_rs r) Q) from ?_)
    refine am_E.run [] 2000 (show (True ∧ Q (some (.int (-1))) (N, am_ts T, I, L, am_rs r)) from ?_)
    exact ⟨trivial, hq⟩
  rw [if_neg hc1] at hq
  by_cases hc2 : (I 14 8) = 2000039
  · rw [if_pos hc2] at hq
    refine am_E.swap (k := 2000039) hc2 ?_
    refine am_E.go (show (am_E S 66 (d + 0) 0 0 146 [.ref 14] [] (N, am_ts T, I, L, am_rs r) Q) from ?_)
    refine am_E.run [] 2000 (show (True ∧ Q (some (.int (-1))) (N, am_ts T, I, L, am_rs r)) from ?_)
    exact ⟨trivial, hq⟩
  rw [if_neg hc2] at hq
  by_cases hc3 : (I 14 8) = 2000040
  · rw [if_pos hc3] at hq
    refine am_E.swap (k := 2000040) hc3 ?_
    refine am_E.go (show (am_E S 66 (d + 0) 0 0 146 [.ref 14] [] (N, am_ts T, I, L, am_rs r) Q) from ?_)
    refine am_E.run [] 2000 (show (True ∧ Q (some (.int (-1))) (N, am_ts T, I, L, am_rs r)) from ?_)
    exact ⟨trivial, hq⟩
  rw [if_neg hc3] at hq
  by_cases hc4 : (I 14 8) = 2000041
  · rw [if_pos hc4] at hq
    refine am_E.swap (k := 2000041) hc4 ?_
    refine am_E.go (show (am_E S 66 (d + 0) 0 0 146 [.ref 14] [] (N, am_ts T, I, L, am_rs r) Q) from ?_)
    refine am_E.run [] 2000 (show (True ∧ Q (some (.int (-1))) (N, am_ts T, I, L, am_rs r)) from ?_)
    exact ⟨trivial, hq⟩
  rw [if_neg hc4] at hq
  by_cases hc5 : (I 14 8) = 2000042
  · rw [if_pos hc5] at hq
    refine am_E.swap (k := 2000042) hc5 ?_
    refine am_E.go (show (am_E S 66 (d + 0) 0 0 128 [.ref 14] [] (N, am_ts T, I, L, am_rs r) Q) from ?_)
    refine am_E.run [] 2000 (show (True ∧ Q (some (.int 6)) (N, am_ts T, I, L, am_rs r)) from ?_)
    exact ⟨trivial, hq⟩
  rw [if_neg hc5] at hq
  by_cases hc6 : (I 14 8) = 2000043
  · rw [if_pos hc6] at hq
    refine am_E.swap (k := 2000043) hc6 ?_
    refine am_E.go (show (am_E S 66 (d + 0) 0 0 124 [.ref 14] [] (N, am_ts T, I, L, am_rs r) Q) from ?_)
    refine am_E.run [] 2000 (show (True ∧ Q (some (.int 4)) (N, am_ts T, I, L, am_rs r)) from ?_)
    exact ⟨trivial, hq⟩
  rw [if_neg hc6] at hq
  by_cases hc7 : (I 14 8) = 2000044
  · rw [if_pos hc7] at hq
    refine am_E.swap (k := 2000044) hc7 ?_
    refine am_E.go (show (am_E S 66 (d + 0) 0 0 146 [.ref 14] [] (N, am_ts T, I, L, am_rs r) Q) from ?_)
    refine am_E.run [] 2000 (show (True ∧ Q (some (.int (-1))) (N, am_ts T, I, L, am_rs r)) from ?_)
    exact ⟨trivial, hq⟩
  rw [if_neg hc7] at hq
  by_cases hc8 : (I 14 8) = 2000045
  · rw [if_pos hc8] at hq
    refine am_E.swap (k := 2000045) hc8 ?_
    refine am_E.go (show (am_E S 66 (d + 0) 0 0 126 [.ref 14] [] (N, am_ts T, I, L, am_rs r) Q) from ?_)
    refine am_E.run [] 2000 (show (True ∧ Q (some (.int 5)) (N, am_ts T, I, L, am_rs r)) from ?_)
    exact ⟨trivial, hq⟩
  rw [if_neg hc8] at hq
  by_cases hc9 : (I 14 8) = 2000046
  · rw [if_pos hc9] at hq
    refine am_E.swap (k := 2000046) hc9 ?_
    refine am_E.go (show (am_E S 66 (d + 0) 0 0 146 [.ref 14] [] (N, am_ts T, I, L, am_rs r) Q) from ?_)
    refine am_E.run [] 2000 (show (True ∧ Q (some (.int (-1))) (N, am_ts T, I, L, am_rs r)) from ?_)
    exact ⟨trivial, hq⟩
  rw [if_neg hc9] at hq
  by_cases hc10 : (I 14 8) = 2000047
  · rw [if_pos hc10] at hq
    refine am_E.swap (k := 2000047) hc10 ?_
    refine am_E.go (show (am_E S 66 (d + 0) 0 0 131 [.ref 14] [] (N, am_ts T, I, L, am_rs r) Q) from ?_)
    refine am_E.run [] 2000 (show (True ∧ Q (some (.int 7)) (N, am_ts T, I, L, am_rs r)) from ?_)
    exact ⟨trivial, hq⟩
  rw [if_neg hc10] at hq
  by_cases hc11 : (I 14 8) = 2000048
  · rw [if_pos hc11] at hq
    refine am_E.swap (k := 2000048) hc11 ?_
    refine am_E.go (show (am_E S 66 (d + 0) 0 0 146 [.ref 14] [] (N, am_ts T, I, L, am_rs r) Q) from ?_)
    refine am_E.run [] 2000 (show (True ∧ Q (some (.int (-1))) (N, am_ts T, I, L, am_rs r)) from ?_)
    exact ⟨trivial, hq⟩
  rw [if_neg hc11] at hq
  by_cases hc12 : (I 14 8) = 2000049
  · rw [if_pos hc12] at hq
    refine am_E.swap (k := 2000049) hc12 ?_
    refine am_E.go (show (am_E S 66 (d + 0) 0 0 146 [.ref 14] [] (N, am_ts T, I, L, am_rs r) Q) from ?_)
    refine am_E.run [] 2000 (show (True ∧ Q (some (.int (-1))) (N, am_ts T, I, L, am_rs r)) from ?_)
    exact ⟨trivial, hq⟩
  rw [if_neg hc12] at hq
  by_cases hc13 : (I 14 8) = 2000050
  · rw [if_pos hc13] at hq
    refine am_E.swap (k := 2000050) hc13 ?_
    refine am_E.go (show (am_E S 66 (d + 0) 0 0 146 [.ref 14] [] (N, am_ts T, I, L, am_rs r) Q) from ?_)
    refine am_E.run [] 2000 (show (True ∧ Q (some (.int (-1))) (N, am_ts T, I, L, am_rs r)) from ?_)
    exact ⟨trivial, hq⟩
  rw [if_neg hc13] at hq
  by_cases hc14 : (I 14 8) = 2000051
  · rw [if_pos hc14] at hq
    refine am_E.swap (k := 2000051) hc14 ?_
    refine am_E.go (show (am_E S 66 (d + 0) 0 0 146 [.ref 14] [] (N, am_ts T, I, L, am_rs r) Q) from ?_)
    refine am_E.run [] 2000 (show (True ∧ Q (some (.int (-1))) (N, am_ts T, I, L, am_rs r)) from ?_)
    exact ⟨trivial, hq⟩
  rw [if_neg hc14] at hq
  by_cases hc15 : (I 14 8) = 2000052
  · rw [if_pos hc15] at hq
    refine am_E.swap (k := 2000052) hc15 ?_
    refine am_E.go (show (am_E S 66 (d + 0) 0 0 146 [.ref 14] [] (N, am_ts T, I, L, am_rs r) Q) from ?_)
    refine am_E.run [] 2000 (show (True ∧ Q (some (.int (-1))) (N, am_ts T, I, L, am_rs r)) from ?_)
    exact ⟨trivial, hq⟩
  rw [if_neg hc15] at hq
  by_cases hc16 : (I 14 8) = 2000053
  · rw [if_pos hc16] at hq
    refine am_E.swap (k := 2000053) hc16 ?_
    refine am_E.go (show (am_E S 66 (d + 0) 0 0 146 [.ref 14] [] (N, am_ts T, I, L, am_rs r) Q) from ?_)
    refine am_E.run [] 2000 (show (True ∧ Q (some (.int (-1))) (N, am_ts T, I, L, am_rs r)) from ?_)
    exact ⟨trivial, hq⟩
  rw [if_neg hc16] at hq
  by_cases hc17 : (I 14 8) = 2000054
  · rw [if_pos hc17] at hq
    refine am_E.swap (k := 2000054) hc17 ?_
    refine am_E.go (show (am_E S 66 (d + 0) 0 0 146 [.ref 14] [] (N, am_ts T, I, L, am_rs r) Q) from ?_)
    refine am_E.run [] 2000 (show (True ∧ Q (some (.int (-1))) (N, am_ts T, I, L, am_rs r)) from ?_)
    exact ⟨trivial, hq⟩
  rw [if_neg hc17] at hq
  by_cases hc18 : (I 14 8) = 2000055
  · rw [if_pos hc18] at hq
    refine am_E.swap (k := 2000055) hc18 ?_
    refine am_E.go (show (am_E S 66 (d + 0) 0 0 146 [.ref 14] [] (N, am_ts T, I, L, am_rs r) Q) from ?_)
    refine am_E.run [] 2000 (show (True ∧ Q (some (.int (-1))) (N, am_ts T, I, L, am_rs r)) from ?_)
    exact ⟨trivial, hq⟩
  rw [if_neg hc18] at hq
  by_cases hc19 : (I 14 8) = 2000056
  · rw [if_pos hc19] at hq
    refine am_E.swap (k := 2000056) hc19 ?_
    refine am_E.go (show (am_E S 66 (d + 0) 0 0 146 [.ref 14] [] (N, am_ts T, I, L, am_rs r) Q) from ?_)
    refine am_E.run [] 2000 (show (True ∧ Q (some (.int (-1))) (N, am_ts T, I, L, am_rs r)) from ?_)
    exact ⟨trivial, hq⟩
  rw [if_neg hc19] at hq
  by_cases hc20 : (I 14 8) = 2000057
  · rw [if_pos hc20] at hq
    refine am_E.swap (k := 2000057) hc20 ?_
    refine am_E.go (show (am_E S 66 (d + 0) 0 0 146 [.ref 14] [] (N, am_ts T, I, L, am_rs r) Q) from ?_)
    refine am_E.run [] 2000 (show (True ∧ Q (some (.int (-1))) (N, am_ts T, I, L, am_rs r)) from ?_)
    exact ⟨trivial, hq⟩
  rw [if_neg hc20] at hq
  by_cases hc21 : (I 14 8) = 2000058
  · rw [if_pos hc21] at hq
    refine am_E.swap (k := 2000058) hc21 ?_
    refine am_E.go (show (am_E S 66 (d + 0) 0 0 146 [.ref 14] [] (N, am_ts T, I, L, am_rs r) Q) from ?_)
    refine am_E.run [] 2000 (show (True ∧ Q (some (.int (-1))) (N, am_ts T, I, L, am_rs r)) from ?_)
    exact ⟨trivial, hq⟩
  rw [if_neg hc21] at hq
  by_cases hc22 : (I 14 8) = 2000059
  · rw [if_pos hc22] at hq
    refine am_E.swap (k := 2000059) hc22 ?_
    refine am_E.go (show (am_E S 66 (d + 0) 0 0 146 [.ref 14] [] (N, am_ts T, I, L, am_rs r) Q) from ?_)
    refine am_E.run [] 2000 (show (True ∧ Q (some (.int (-1))) (N, am_ts T, I, L, am_rs r)) from ?_)
    exact ⟨trivial, hq⟩
  rw [if_neg hc22] at hq
  by_cases hc23 : (I 14 8) = 2000060
  · rw [if_pos hc23] at hq
    refine am_E.swap (k := 2000060) hc23 ?_
    refine am_E.go (show (am_E S 66 (d + 0) 0 0 137 [.ref 14] [] (N, am_ts T, I, L, am_rs r) Q) from ?_)
    refine am_E.run [] 2000 (show (True ∧ Q (some (.int 9)) (N, am_ts T, I, L, am_rs r)) from ?_)
    exact ⟨trivial, hq⟩
  rw [if_neg hc23] at hq
  by_cases hc24 : (I 14 8) = 2000061
  · rw [if_pos hc24] at hq
    refine am_E.swap (k := 2000061) hc24 ?_
    refine am_E.go (show (am_E S 66 (d + 0) 0 0 143 [.ref 14] [] (N, am_ts T, I, L, am_rs r) Q) from ?_)
    refine am_E.run [] 2000 (show (True ∧ Q (some (.int 11)) (N, am_ts T, I, L, am_rs r)) from ?_)
    exact ⟨trivial, hq⟩
  rw [if_neg hc24] at hq
  by_cases hc25 : (I 14 8) = 2000062
  · rw [if_pos hc25] at hq
    refine am_E.swap (k := 2000062) hc25 ?_
    refine am_E.go (show (am_E S 66 (d + 0) 0 0 140 [.ref 14] [] (N, am_ts T, I, L, am_rs r) Q) from ?_)
    refine am_E.run [] 2000 (show (True ∧ Q (some (.int 10)) (N, am_ts T, I, L, am_rs r)) from ?_)
    exact ⟨trivial, hq⟩
  rw [if_neg hc25] at hq
  have hd : ((I 14 8)).toInt < 2000037 ∨ 2000062 < ((I 14 8)).toInt := by
    have g0 := am_ine hc0
    have g1 := am_ine hc1
    have g2 := am_ine hc2
    have g3 := am_ine hc3
    have g4 := am_ine hc4
    have g5 := am_ine hc5
    have g6 := am_ine hc6
    have g7 := am_ine hc7
    have g8 := am_ine hc8
    have g9 := am_ine hc9
    have g10 := am_ine hc10
    have g11 := am_ine hc11
    have g12 := am_ine hc12
    have g13 := am_ine hc13
    have g14 := am_ine hc14
    have g15 := am_ine hc15
    have g16 := am_ine hc16
    have g17 := am_ine hc17
    have g18 := am_ine hc18
    have g19 := am_ine hc19
    have g20 := am_ine hc20
    have g21 := am_ine hc21
    have g22 := am_ine hc22
    have g23 := am_ine hc23
    have g24 := am_ine hc24
    have g25 := am_ine hc25
    change ((I 14 8)).toInt ≠ 2000037 at g0
    change ((I 14 8)).toInt ≠ 2000038 at g1
    change ((I 14 8)).toInt ≠ 2000039 at g2
    change ((I 14 8)).toInt ≠ 2000040 at g3
    change ((I 14 8)).toInt ≠ 2000041 at g4
    change ((I 14 8)).toInt ≠ 2000042 at g5
    change ((I 14 8)).toInt ≠ 2000043 at g6
    change ((I 14 8)).toInt ≠ 2000044 at g7
    change ((I 14 8)).toInt ≠ 2000045 at g8
    change ((I 14 8)).toInt ≠ 2000046 at g9
    change ((I 14 8)).toInt ≠ 2000047 at g10
    change ((I 14 8)).toInt ≠ 2000048 at g11
    change ((I 14 8)).toInt ≠ 2000049 at g12
    change ((I 14 8)).toInt ≠ 2000050 at g13
    change ((I 14 8)).toInt ≠ 2000051 at g14
    change ((I 14 8)).toInt ≠ 2000052 at g15
    change ((I 14 8)).toInt ≠ 2000053 at g16
    change ((I 14 8)).toInt ≠ 2000054 at g17
    change ((I 14 8)).toInt ≠ 2000055 at g18
    change ((I 14 8)).toInt ≠ 2000056 at g19
    change ((I 14 8)).toInt ≠ 2000057 at g20
    change ((I 14 8)).toInt ≠ 2000058 at g21
    change ((I 14 8)).toInt ≠ 2000059 at g22
    change ((I 14 8)).toInt ≠ 2000060 at g23
    change ((I 14 8)).toInt ≠ 2000061 at g24
    change ((I 14 8)).toInt ≠ 2000062 at g25
    omega
  refine am_E.go (show (if ((I 14 8)).toInt < 2000037 ∨ 2000062 < ((I 14 8)).toInt then (am_E S 66 (d + 0) 0 0 146 [.ref 14] [] (N, am_ts T, I, L, am_rs r) Q) else _) from ?_)
  rw [if_pos hd]
  refine am_E.run [] 2000 (show (True ∧ Q (some (.int (-1))) (N, am_ts T, I, L, am_rs r)) from ?_)
  exact ⟨trivial, hq⟩
