/-- java/lang/String.length()I -/
def w_46 (K : Int32 → Prop) : Prop :=
  w_47 (fun q1 =>
    K ((Int32.ofNat (am_pe (0, fun _ => 0) 4).1) >>> (q1 &&& 31)))
set_option maxRecDepth 100000 in
theorem s_46 {S : am_S} {d : Nat} {N : Nat} {T : Nat → Nat × Nat} {I : am_I} {L : am_J} {r : Nat → Nat → Option Nat} {Q : am_Q} {K : Int32 → Prop} (hw : w_46 K) (hK : ∀ (q : Int32), K q → Q (some (.int q)) (N, am_ts T, I, L, am_rs r)) : am_E S 46 (d + 1) 0 0 0 [.retAddr 2] [] (N, am_ts T, I, L, am_rs r) Q := by
  unfold w_46 at hw
  try dsimp only at hw
  refine am_E.run [6] 2000 (show (am_E S 46 (d + 1) 0 0 6 [.retAddr 2] [.retAddr 2, .int (Int32.ofNat (am_pe (0, fun _ => 0) 4).1)] (N, am_ts T, I, L, am_rs r) Q) from ?_)
  refine am_E.go ⟨am_ki_ N T I L r _, s_47 hw (fun q1 hk => ⟨q1, rfl, rfl, hk⟩), ?_⟩
  intro v h9 hv
  obtain ⟨q1, rfl, rfl, hw⟩ := hv
  try dsimp only at hw
  refine am_E.run [] 2000 (show (True ∧ Q (some (.int ((Int32.ofNat (am_pe (0, fun _ => 0) 4).1) >>> (q1 &&& 31)))) (N, am_ts T, I, L, am_rs r)) from ?_)
  exact ⟨trivial, hK _ hw⟩
/-- java/lang/String.checkIndex(II)V -/
def w_51 (x0 : Int32) (x1 : Int32) (K : Prop) : Prop :=
  w_52 x0 x1 (fun q1 =>
    K)
set_option maxRecDepth 100000 in
theorem s_51 {S : am_S} {d : Nat} {N : Nat} {T : Nat → Nat × Nat} {I : am_I} {L : am_J} {r : Nat → Nat → Option Nat} {Q : am_Q} {x0 : Int32} {x1 : Int32} {K : Prop} (hw : w_51 x0 x1 K) (hK : K → Q (none) (N, am_ts T, I, L, am_rs r)) : am_E S 51 (d + 1) 0 0 0 [.int x0, .int x1] [] (N, am_ts T, I, L, am_rs r) Q := by
  unfold w_51 at hw
  try dsimp only at hw
  refine am_E.run [5] 2000 (show (am_E S 51 (d + 1) 0 0 5 [.int x0, .int x1] [.retAddr 5, .int x1, .int x0] (N, am_ts T, I, L, am_rs r) Q) from ?_)
  refine am_E.go ⟨am_ki_ N T I L r _, s_52 hw (fun q1 hk => ⟨q1, rfl, rfl, hk⟩), ?_⟩
  intro v h9 hv
  obtain ⟨q1, rfl, rfl, hw⟩ := hv
  try dsimp only at hw
  refine am_E.run [] 2000 (show (True ∧ Q (none) (N, am_ts T, I, L, am_rs r)) from ?_)
  exact ⟨trivial, hK hw⟩
/-- KeyKeepers$Text.begin(I)V -/
def w_56 (x0 : Int32) (I : am_I) (K : am_I → Prop) : Prop :=
  if (Int32.ofNat 12) ≤ (I 16 2) then
    K I
  else
    ¬ ((I 16 2) < 0 ∨ 12 ≤ Int32.toNatClampNeg (I 16 2)) ∧
    ¬ ((I 16 2) < 0 ∨ 12 ≤ Int32.toNatClampNeg (I 16 2)) ∧
    w_57 0 (am_u (am_u (am_u I 18 (Int32.toNatClampNeg (I 16 2)) x0) 19 (Int32.toNatClampNeg (I 16 2)) 1) 16 2 ((I 16 2) + 1)) (fun I1 =>
      K I1)
set_option maxRecDepth 100000 in
theorem s_56 {S : am_S} {d : Nat} {N : Nat} {T : Nat → Nat × Nat} {I : am_I} {L : am_J} {r : Nat → Nat → Option Nat} {Q : am_Q} {x0 : Int32} {K : am_I → Prop} (hw : w_56 x0 I K) (hK : ∀ (I1 : am_I), K I1 → Q (none) (N, am_ts T, I1, L, am_rs r)) : am_E S 56 (d + 1) 0 0 0 [.ref 16, .int x0] [] (N, am_ts T, I, L, am_rs r) Q := by
  unfold w_56 at hw
  try dsimp only at hw
  refine am_E.run [44] 2000 (show (if (Int32.ofNat 12) ≤ (I 16 2) then (True ∧ Q (none) (N, am_ts T, I, L, am_rs r)) else (if (I 16 2) < 0 ∨ 12 ≤ Int32.toNatClampNeg (I 16 2) then False else (if (I 16 2) < 0 ∨ 12 ≤ Int32.toNatClampNeg (I 16 2) then False else (am_E S 56 (d + 1) 0 0 44 [.ref 16, .int x0] [.int 0, .ref 16] (N, am_ts T, (am_u (am_u (am_u I 18 (Int32.toNatClampNeg (I 16 2)) x0) 19 (Int32.toNatClampNeg (I 16 2)) 1) 16 2 ((I 16 2) + 1)), L, am_rs r) Q)))) from ?_)
  by_cases hc : (Int32.ofNat 12) ≤ (I 16 2)
  · rw [if_pos hc] at hw ⊢
    exact ⟨trivial, hK _ hw⟩
  · rw [if_neg hc] at hw ⊢
    refine am_ifn hw.1 ?_
    replace hw := hw.2
    refine am_ifn hw.1 ?_
    replace hw := hw.2
    refine am_E.go ⟨am_kv_I N T L r _, s_57 hw (fun I1 hk => ⟨I1, rfl, rfl, hk⟩), ?_⟩
    intro v h9 hv
    obtain ⟨I1, rfl, rfl, hw⟩ := hv
    try dsimp only at hw
    refine am_E.run [] 2000 (show (True ∧ Q (none) (N, am_ts T, I1, L, am_rs r)) from ?_)
    exact ⟨trivial, hK _ hw⟩
def lw_59_17 (W : Nat → Int32 → am_I → (Int32 → am_I → Prop) → Prop) : Nat → Int32 → Int32 → Int32 → am_I → (Int32 → Int32 → am_I → Prop) → (Int32 → am_I → Prop) → Prop
  | 0, _, _, _, _, _, _ => False
  | n + 1, v1, v2, v3, I, E0, R =>
    if (400 : Int32) ≤ v3 then
      E0 v2 v3 I
    else
      if (f_13 v2 4 5) = 0 then
        E0 v2 v3 I
      else
        w_58 I (fun I3 =>
          W 60 v1 I3 (fun q4 I5 =>
            if q4 = 0 then
              R 0 I5
            else
              w_64 v2 0 I5 (fun q6 I7 =>
                lw_59_17 W n v1 (f_66 I7) (v3 + 1) I7 E0 R)))
set_option maxRecDepth 100000 in
theorem sl_59_17 {W : Nat → Int32 → am_I → (Int32 → am_I → Prop) → Prop} {S : am_S} {d : Nat} {Q : am_Q} {N : Nat} {T : Nat → Nat × Nat} {L : am_J} {r : Nat → Nat → Option Nat} {E0 : Int32 → Int32 → am_I → Prop} {R : Int32 → am_I → Prop} (hW59 : ∀ (N : Nat) (T : Nat → Nat × Nat) (L : am_J) (r : Nat → Nat → Option Nat) (o : Int32) (I : am_I) (K : Int32 → am_I → Prop) (Q : am_Q), W 59 o I K → (∀ q I, K q I → Q (some (.int q)) (N, am_ts T, I, L, am_rs r)) → am_E S 59 (d + 3) 0 0 0 [.ref 14, .int o, am_jk, am_jk] [] (N, am_ts T, I, L, am_rs r) Q) (hW60 : ∀ (N : Nat) (T : Nat → Nat × Nat) (L : am_J) (r : Nat → Nat → Option Nat) (o : Int32) (I : am_I) (K : Int32 → am_I → Prop) (Q : am_Q), W 60 o I K → (∀ q I, K q I → Q (some (.int q)) (N, am_ts T, I, L, am_rs r)) → am_E S 60 (d + 3) 0 0 0 [.ref 14, .int o, am_jk, am_jk] [] (N, am_ts T, I, L, am_rs r) Q) (hW61 : ∀ (N : Nat) (T : Nat → Nat × Nat) (L : am_J) (r : Nat → Nat → Option Nat) (o : Int32) (I : am_I) (K : Int32 → am_I → Prop) (Q : am_Q), W 61 o I K → (∀ q I, K q I → Q (some (.int q)) (N, am_ts T, I, L, am_rs r)) → am_E S 61 (d + 3) 0 0 0 [.ref 14, .int o, am_jk] [] (N, am_ts T, I, L, am_rs r) Q) (hW68 : ∀ (N : Nat) (T : Nat → Nat × Nat) (L : am_J) (r : Nat → Nat → Option Nat) (o : Int32) (I : am_I) (K : Int32 → am_I → Prop) (Q : am_Q), W 68 o I K → (∀ q I, K q I → Q (some (.int q)) (N, am_ts T, I, L, am_rs r)) → am_E S 68 (d + 3) 0 0 0 [.ref 14, .int o, am_jk, am_jk] [] (N, am_ts T, I, L, am_rs r) Q) (hW69 : ∀ (N : Nat) (T : Nat → Nat × Nat) (L : am_J) (r : Nat → Nat → Option Nat) (o : Int32) (I : am_I) (K : Int32 → am_I → Prop) (Q : am_Q), W 69 o I K → (∀ q I, K q I → Q (some (.int q)) (N, am_ts T, I, L, am_rs r)) → am_E S 69 (d + 3) 0 0 0 [.ref 14, .int o, am_jk, am_jk] [] (N, am_ts T, I, L, am_rs r) Q) (hW70 : ∀ (N : Nat) (T : Nat → Nat × Nat) (L : am_J) (r : Nat → Nat → Option Nat) (o : Int32) (I : am_I) (K : Int32 → am_I → Prop) (Q : am_Q), W 70 o I K → (∀ q I, K q I → Q (some (.int q)) (N, am_ts T, I, L, am_rs r)) → am_E S 70 (d + 3) 0 0 0 [.ref 14, .int o, am_jk, am_jk] [] (N, am_ts T, I, L, am_rs r) Q) : ∀ (n : Nat) {v1 : Int32} {v2 : Int32} {v3 : Int32} {I : am_I}, lw_59_17 W n v1 v2 v3 I E0 R → (∀ (o2 : Int32) (o3 : Int32) (I1 : am_I), E0 o2 o3 I1 → am_E S 59 (d + 4) 0 0 68 [.ref 14, .int v1, .int o2, .int o3] [] (N, am_ts T, I1, L, am_rs r) Q) → (∀ (q : Int32) (I1 : am_I), R q I1 → Q (some (.int q)) (N, am_ts T, I1, L, am_rs r)) → am_E S 59 (d + 4) 0 0 17 [.ref 14, .int v1, .int v2, .int v3] [] (N, am_ts T, I, L, am_rs r) Q
  | 0, _, _, _, _, hw, _, _ => hw.elim
  | n + 1, v1, v2, v3, I, hw, hE0, hR => by
    have ih := @sl_59_17 W S d Q N T L r E0 R hW59 hW60 hW61 hW68 hW69 hW70 n
    unfold lw_59_17 at hw
    try dsimp only at hw
    refine am_E.run [27, 68] 2000 (show (if (400 : Int32) ≤ v3 then (am_E S 59 (d + 4) 0 0 68 [.ref 14, .int v1, .int v2, .int v3] [] (N, am_ts T, I, L, am_rs r) Q) else (am_E S 59 (d + 4) 0 0 27 [.ref 14, .int v1, .int v2, .int v3] [.int 5, .int 4, .int v2] (N, am_ts T, I, L, am_rs r) Q)) from ?_)
    by_cases hc : (400 : Int32) ≤ v3
    · rw [if_pos hc] at hw ⊢
      exact hE0 _ _ _ hw
    · rw [if_neg hc] at hw ⊢
      refine am_E.go ⟨fun v h9 => v = some (.int (f_13 v2 4 5)) ∧ h9 = (N, am_ts T, I, L, am_rs r), s_13 ⟨rfl, rfl⟩, ?_⟩
      intro v h9 hv
      obtain ⟨rfl, rfl⟩ := hv
      refine am_E.run [34, 68] 2000 (show (if (f_13 v2 4 5) = 0 then (am_E S 59 (d + 4) 0 0 68 [.ref 14, .int v1, .int v2, .int v3] [] (N, am_ts T, I, L, am_rs r) Q) else (am_E S 59 (d + 4) 0 0 34 [.ref 14, .int v1, .int v2, .int v3] [.ref 14] (N, am_ts T, I, L, am_rs r) Q)) from ?_)
      by_cases hc : (f_13 v2 4 5) = 0
      · rw [if_pos hc] at hw ⊢
        exact hE0 _ _ _ hw
      · rw [if_neg hc] at hw ⊢
        refine am_E.go ⟨am_kv_I N T L r _, s_58 hw (fun I3 hk => ⟨I3, rfl, rfl, hk⟩), ?_⟩
        intro v h9 hv
        obtain ⟨I3, rfl, rfl, hw⟩ := hv
        try dsimp only at hw
        refine am_E.run [39] 2000 (show (am_E S 59 (d + 4) 0 0 39 [.ref 14, .int v1, .int v2, .int v3] [.int v1, .ref 14] (N, am_ts T, I3, L, am_rs r) Q) from ?_)
        refine am_E.go ⟨am_ki_I N T L r _, hW60 _ _ _ _ _ _ _ _ hw (fun q4 I5 hk => ⟨q4, I5, rfl, rfl, hk⟩), ?_⟩
        intro v h9 hv
        obtain ⟨q4, I5, rfl, rfl, hw⟩ := hv
        try dsimp only at hw
        refine am_E.run [53] 2000 (show (if q4 = 0 then (((0 : Int32) = 0 ∨ (0 : Int32) = 1) ∧ Q (some (.int 0)) (N, am_ts T, I5, L, am_rs r)) else (am_E S 59 (d + 4) 0 0 53 [.ref 14, .int v1, .int v2, .int v3] [.int 0, .int v2, .ref 16] (N, am_ts T, I5, L, am_rs r) Q)) from ?_)
        by_cases hc : q4 = 0
        · rw [if_pos hc] at hw ⊢
          exact ⟨Or.inl rfl, hR _ _ hw⟩
        · rw [if_neg hc] at hw ⊢
          refine am_E.go ⟨am_ki_I N T L r _, s_64 hw (fun q6 I7 hk => ⟨q6, I7, rfl, rfl, hk⟩), ?_⟩
          intro v h9 hv
          obtain ⟨q6, I7, rfl, rfl, hw⟩ := hv
          try dsimp only at hw
          refine am_E.run [58] 2000 (show (am_E S 59 (d + 4) 0 0 58 [.ref 14, .int v1, .int v2, .int v3] [.ref 14] (N, am_ts T, I7, L, am_rs r) Q) from ?_)
          refine am_E.go ⟨fun v h9 => v = some (.int (f_66 I7)) ∧ h9 = (N, am_ts T, I7, L, am_rs r), s_66 ⟨rfl, rfl⟩, ?_⟩
          intro v h9 hv
          obtain ⟨rfl, rfl⟩ := hv
          refine am_E.run [17] 2000 (show (am_E S 59 (d + 4) 0 0 17 [.ref 14, .int v1, .int (f_66 I7), .int (v3 + 1)] [] (N, am_ts T, I7, L, am_rs r) Q) from ?_)
          exact ih hw hE0 hR
/-- KeyKeepers$Reader.readSum(I)Z -/
def w_59 (W : Nat → Int32 → am_I → (Int32 → am_I → Prop) → Prop) (x0 : Int32) (I : am_I) (K : Int32 → am_I → Prop) : Prop :=
  W 60 x0 I (fun q1 I2 =>
    if q1 = 0 then
      K 0 I2
    else
      ∃ n17, lw_59_17 W n17 x0 (f_66 I2) 0 I2 (fun o8 o9 I10 =>
        K 1 I10) K)
set_option maxRecDepth 100000 in
theorem s_59 {W : Nat → Int32 → am_I → (Int32 → am_I → Prop) → Prop} {S : am_S} {d : Nat} {N : Nat} {T : Nat → Nat × Nat} {I : am_I} {L : am_J} {r : Nat → Nat → Option Nat} {Q : am_Q} {x0 : Int32} {K : Int32 → am_I → Prop} (hw : w_59 W x0 I K) (hW59 : ∀ (N : Nat) (T : Nat → Nat × Nat) (L : am_J) (r : Nat → Nat → Option Nat) (o : Int32) (I : am_I) (K : Int32 → am_I → Prop) (Q : am_Q), W 59 o I K → (∀ q I, K q I → Q (some (.int q)) (N, am_ts T, I, L, am_rs r)) → am_E S 59 (d + 3) 0 0 0 [.ref 14, .int o, am_jk, am_jk] [] (N, am_ts T, I, L, am_rs r) Q) (hW60 : ∀ (N : Nat) (T : Nat → Nat × Nat) (L : am_J) (r : Nat → Nat → Option Nat) (o : Int32) (I : am_I) (K : Int32 → am_I → Prop) (Q : am_Q), W 60 o I K → (∀ q I, K q I → Q (some (.int q)) (N, am_ts T, I, L, am_rs r)) → am_E S 60 (d + 3) 0 0 0 [.ref 14, .int o, am_jk, am_jk] [] (N, am_ts T, I, L, am_rs r) Q) (hW61 : ∀ (N : Nat) (T : Nat → Nat × Nat) (L : am_J) (r : Nat → Nat → Option Nat) (o : Int32) (I : am_I) (K : Int32 → am_I → Prop) (Q : am_Q), W 61 o I K → (∀ q I, K q I → Q (some (.int q)) (N, am_ts T, I, L, am_rs r)) → am_E S 61 (d + 3) 0 0 0 [.ref 14, .int o, am_jk] [] (N, am_ts T, I, L, am_rs r) Q) (hW68 : ∀ (N : Nat) (T : Nat → Nat × Nat) (L : am_J) (r : Nat → Nat → Option Nat) (o : Int32) (I : am_I) (K : Int32 → am_I → Prop) (Q : am_Q), W 68 o I K → (∀ q I, K q I → Q (some (.int q)) (N, am_ts T, I, L, am_rs r)) → am_E S 68 (d + 3) 0 0 0 [.ref 14, .int o, am_jk, am_jk] [] (N, am_ts T, I, L, am_rs r) Q) (hW69 : ∀ (N : Nat) (T : Nat → Nat × Nat) (L : am_J) (r : Nat → Nat → Option Nat) (o : Int32) (I : am_I) (K : Int32 → am_I → Prop) (Q : am_Q), W 69 o I K → (∀ q I, K q I → Q (some (.int q)) (N, am_ts T, I, L, am_rs r)) → am_E S 69 (d + 3) 0 0 0 [.ref 14, .int o, am_jk, am_jk] [] (N, am_ts T, I, L, am_rs r) Q) (hW70 : ∀ (N : Nat) (T : Nat → Nat × Nat) (L : am_J) (r : Nat → Nat → Option Nat) (o : Int32) (I : am_I) (K : Int32 → am_I → Prop) (Q : am_Q), W 70 o I K → (∀ q I, K q I → Q (some (.int q)) (N, am_ts T, I, L, am_rs r)) → am_E S 70 (d + 3) 0 0 0 [.ref 14, .int o, am_jk, am_jk] [] (N, am_ts T, I, L, am_rs r) Q) (hK : ∀ (q : Int32) (I1 : am_I), K q I1 → Q (some (.int q)) (N, am_ts T, I1, L, am_rs r)) : am_E S 59 (d + 4) 0 0 0 [.ref 14, .int x0, am_jk, am_jk] [] (N, am_ts T, I, L, am_rs r) Q := by
  unfold w_59 at hw
  try dsimp only at hw
  refine am_E.run [2] 2000 (show (am_E S 59 (d + 4) 0 0 2 [.ref 14, .int x0, am_jk, am_jk] [.int x0, .ref 14] (N, am_ts T, I, L, am_rs r) Q) from ?_)
  refine am_E.go ⟨am_ki_I N T L r _, hW60 _ _ _ _ _ _ _ _ hw (fun q1 I2 hk => ⟨q1, I2, rfl, rfl, hk⟩), ?_⟩
  intro v h9 hv
  obtain ⟨q1, I2, rfl, rfl, hw⟩ := hv
  try dsimp only at hw
  refine am_E.run [11] 2000 (show (if q1 = 0 then (((0 : Int32) = 0 ∨ (0 : Int32) = 1) ∧ Q (some (.int 0)) (N, am_ts T, I2, L, am_rs r)) else (am_E S 59 (d + 4) 0 0 11 [.ref 14, .int x0, am_jk, am_jk] [.ref 14] (N, am_ts T, I2, L, am_rs r) Q)) from ?_)
  by_cases hc : q1 = 0
  · rw [if_pos hc] at hw ⊢
    exact ⟨Or.inl rfl, hK _ _ hw⟩
  · rw [if_neg hc] at hw ⊢
    refine am_E.go ⟨fun v h9 => v = some (.int (f_66 I2)) ∧ h9 = (N, am_ts T, I2, L, am_rs r), s_66 ⟨rfl, rfl⟩, ?_⟩
    intro v h9 hv
    obtain ⟨rfl, rfl⟩ := hv
    refine am_E.run [17] 2000 (show (am_E S 59 (d + 4) 0 0 17 [.ref 14, .int x0, .int (f_66 I2), .int 0] [] (N, am_ts T, I2, L, am_rs r) Q) from ?_)
    obtain ⟨n17, hw⟩ := hw
    refine sl_59_17 hW59 hW60 hW61 hW68 hW69 hW70 n17 hw (fun o8 o9 I10 hw => ?_) hK
    · try dsimp only at hw
      refine am_E.run [] 2000 (show (((1 : Int32) = 0 ∨ (1 : Int32) = 1) ∧ Q (some (.int 1)) (N, am_ts T, I10, L, am_rs r)) from ?_)
      exact ⟨Or.inr rfl, hK _ _ hw⟩
def lw_60_17 (W : Nat → Int32 → am_I → (Int32 → am_I → Prop) → Prop) : Nat → Int32 → Int32 → Int32 → am_I → (Int32 → Int32 → am_I → Prop) → (Int32 → am_I → Prop) → Prop
  | 0, _, _, _, _, _, _ => False
  | n + 1, v1, v2, v3, I, E0, R =>
    if (400 : Int32) ≤ v3 then
      E0 v2 v3 I
    else
      if (f_13 v2 6 8) = 0 then
        E0 v2 v3 I
      else
        w_58 I (fun I3 =>
          W 61 v1 I3 (fun q4 I5 =>
            if q4 = 0 then
              R 0 I5
            else
              w_64 v2 0 I5 (fun q6 I7 =>
                lw_60_17 W n v1 (f_66 I7) (v3 + 1) I7 E0 R)))
set_option maxRecDepth 100000 in
theorem sl_60_17 {W : Nat → Int32 → am_I → (Int32 → am_I → Prop) → Prop} {S : am_S} {d : Nat} {Q : am_Q} {N : Nat} {T : Nat → Nat × Nat} {L : am_J} {r : Nat → Nat → Option Nat} {E0 : Int32 → Int32 → am_I → Prop} {R : Int32 → am_I → Prop} (hW59 : ∀ (N : Nat) (T : Nat → Nat × Nat) (L : am_J) (r : Nat → Nat → Option Nat) (o : Int32) (I : am_I) (K : Int32 → am_I → Prop) (Q : am_Q), W 59 o I K → (∀ q I, K q I → Q (some (.int q)) (N, am_ts T, I, L, am_rs r)) → am_E S 59 (d + 3) 0 0 0 [.ref 14, .int o, am_jk, am_jk] [] (N, am_ts T, I, L, am_rs r) Q) (hW60 : ∀ (N : Nat) (T : Nat → Nat × Nat) (L : am_J) (r : Nat → Nat → Option Nat) (o : Int32) (I : am_I) (K : Int32 → am_I → Prop) (Q : am_Q), W 60 o I K → (∀ q I, K q I → Q (some (.int q)) (N, am_ts T, I, L, am_rs r)) → am_E S 60 (d + 3) 0 0 0 [.ref 14, .int o, am_jk, am_jk] [] (N, am_ts T, I, L, am_rs r) Q) (hW61 : ∀ (N : Nat) (T : Nat → Nat × Nat) (L : am_J) (r : Nat → Nat → Option Nat) (o : Int32) (I : am_I) (K : Int32 → am_I → Prop) (Q : am_Q), W 61 o I K → (∀ q I, K q I → Q (some (.int q)) (N, am_ts T, I, L, am_rs r)) → am_E S 61 (d + 3) 0 0 0 [.ref 14, .int o, am_jk] [] (N, am_ts T, I, L, am_rs r) Q) (hW68 : ∀ (N : Nat) (T : Nat → Nat × Nat) (L : am_J) (r : Nat → Nat → Option Nat) (o : Int32) (I : am_I) (K : Int32 → am_I → Prop) (Q : am_Q), W 68 o I K → (∀ q I, K q I → Q (some (.int q)) (N, am_ts T, I, L, am_rs r)) → am_E S 68 (d + 3) 0 0 0 [.ref 14, .int o, am_jk, am_jk] [] (N, am_ts T, I, L, am_rs r) Q) (hW69 : ∀ (N : Nat) (T : Nat → Nat × Nat) (L : am_J) (r : Nat → Nat → Option Nat) (o : Int32) (I : am_I) (K : Int32 → am_I → Prop) (Q : am_Q), W 69 o I K → (∀ q I, K q I → Q (some (.int q)) (N, am_ts T, I, L, am_rs r)) → am_E S 69 (d + 3) 0 0 0 [.ref 14, .int o, am_jk, am_jk] [] (N, am_ts T, I, L, am_rs r) Q) (hW70 : ∀ (N : Nat) (T : Nat → Nat × Nat) (L : am_J) (r : Nat → Nat → Option Nat) (o : Int32) (I : am_I) (K : Int32 → am_I → Prop) (Q : am_Q), W 70 o I K → (∀ q I, K q I → Q (some (.int q)) (N, am_ts T, I, L, am_rs r)) → am_E S 70 (d + 3) 0 0 0 [.ref 14, .int o, am_jk, am_jk] [] (N, am_ts T, I, L, am_rs r) Q) : ∀ (n : Nat) {v1 : Int32} {v2 : Int32} {v3 : Int32} {I : am_I}, lw_60_17 W n v1 v2 v3 I E0 R → (∀ (o2 : Int32) (o3 : Int32) (I1 : am_I), E0 o2 o3 I1 → am_E S 60 (d + 4) 0 0 70 [.ref 14, .int v1, .int o2, .int o3] [] (N, am_ts T, I1, L, am_rs r) Q) → (∀ (q : Int32) (I1 : am_I), R q I1 → Q (some (.int q)) (N, am_ts T, I1, L, am_rs r)) → am_E S 60 (d + 4) 0 0 17 [.ref 14, .int v1, .int v2, .int v3] [] (N, am_ts T, I, L, am_rs r) Q
  | 0, _, _, _, _, hw, _, _ => hw.elim
  | n + 1, v1, v2, v3, I, hw, hE0, hR => by
    have ih := @sl_60_17 W S d Q N T L r E0 R hW59 hW60 hW61 hW68 hW69 hW70 n
    unfold lw_60_17 at hw
    try dsimp only at hw
    refine am_E.run [29, 70] 2000 (show (if (400 : Int32) ≤ v3 then (am_E S 60 (d + 4) 0 0 70 [.ref 14, .int v1, .int v2, .int v3] [] (N, am_ts T, I, L, am_rs r) Q) else (am_E S 60 (d + 4) 0 0 29 [.ref 14, .int v1, .int v2, .int v3] [.int 8, .int 6, .int v2] (N, am_ts T, I, L, am_rs r) Q)) from ?_)
    by_cases hc : (400 : Int32) ≤ v3
    · rw [if_pos hc] at hw ⊢
      exact hE0 _ _ _ hw
    · rw [if_neg hc] at hw ⊢
      refine am_E.go ⟨fun v h9 => v = some (.int (f_13 v2 6 8)) ∧ h9 = (N, am_ts T, I, L, am_rs r), s_13 ⟨rfl, rfl⟩, ?_⟩
      intro v h9 hv
      obtain ⟨rfl, rfl⟩ := hv
      refine am_E.run [36, 70] 2000 (show (if (f_13 v2 6 8) = 0 then (am_E S 60 (d + 4) 0 0 70 [.ref 14, .int v1, .int v2, .int v3] [] (N, am_ts T, I, L, am_rs r) Q) else (am_E S 60 (d + 4) 0 0 36 [.ref 14, .int v1, .int v2, .int v3] [.ref 14] (N, am_ts T, I, L, am_rs r) Q)) from ?_)
      by_cases hc : (f_13 v2 6 8) = 0
      · rw [if_pos hc] at hw ⊢
        exact hE0 _ _ _ hw
      · rw [if_neg hc] at hw ⊢
        refine am_E.go ⟨am_kv_I N T L r _, s_58 hw (fun I3 hk => ⟨I3, rfl, rfl, hk⟩), ?_⟩
        intro v h9 hv
        obtain ⟨I3, rfl, rfl, hw⟩ := hv
        try dsimp only at hw
        refine am_E.run [41] 2000 (show (am_E S 60 (d + 4) 0 0 41 [.ref 14, .int v1, .int v2, .int v3] [.int v1, .ref 14] (N, am_ts T, I3, L, am_rs r) Q) from ?_)
        refine am_E.go ⟨am_ki_I N T L r _, hW61 _ _ _ _ _ _ _ _ hw (fun q4 I5 hk => ⟨q4, I5, rfl, rfl, hk⟩), ?_⟩
        intro v h9 hv
        obtain ⟨q4, I5, rfl, rfl, hw⟩ := hv
        try dsimp only at hw
        refine am_E.run [55] 2000 (show (if q4 = 0 then (((0 : Int32) = 0 ∨ (0 : Int32) = 1) ∧ Q (some (.int 0)) (N, am_ts T, I5, L, am_rs r)) else (am_E S 60 (d + 4) 0 0 55 [.ref 14, .int v1, .int v2, .int v3] [.int 0, .int v2, .ref 16] (N, am_ts T, I5, L, am_rs r) Q)) from ?_)
        by_cases hc : q4 = 0
        · rw [if_pos hc] at hw ⊢
          exact ⟨Or.inl rfl, hR _ _ hw⟩
        · rw [if_neg hc] at hw ⊢
          refine am_E.go ⟨am_ki_I N T L r _, s_64 hw (fun q6 I7 hk => ⟨q6, I7, rfl, rfl, hk⟩), ?_⟩
          intro v h9 hv
          obtain ⟨q6, I7, rfl, rfl, hw⟩ := hv
          try dsimp only at hw
          refine am_E.run [60] 2000 (show (am_E S 60 (d + 4) 0 0 60 [.ref 14, .int v1, .int v2, .int v3] [.ref 14] (N, am_ts T, I7, L, am_rs r) Q) from ?_)
          refine am_E.go ⟨fun v h9 => v = some (.int (f_66 I7)) ∧ h9 = (N, am_ts T, I7, L, am_rs r), s_66 ⟨rfl, rfl⟩, ?_⟩
          intro v h9 hv
          obtain ⟨rfl, rfl⟩ := hv
          refine am_E.run [17] 2000 (show (am_E S 60 (d + 4) 0 0 17 [.ref 14, .int v1, .int (f_66 I7), .int (v3 + 1)] [] (N, am_ts T, I7, L, am_rs r) Q) from ?_)
          exact ih hw hE0 hR
/-- KeyKeepers$Reader.readTerm(I)Z -/
def w_60 (W : Nat → Int32 → am_I → (Int32 → am_I → Prop) → Prop) (x0 : Int32) (I : am_I) (K : Int32 → am_I → Prop) : Prop :=
  W 61 x0 I (fun q1 I2 =>
    if q1 = 0 then
      K 0 I2
    else
      ∃ n17, lw_60_17 W n17 x0 (f_66 I2) 0 I2 (fun o8 o9 I10 =>
        K 1 I10) K)
set_option maxRecDepth 100000 in
theorem s_60 {W : Nat → Int32 → am_I → (Int32 → am_I → Prop) → Prop} {S : am_S} {d : Nat} {N : Nat} {T : Nat → Nat × Nat} {I : am_I} {L : am_J} {r : Nat → Nat → Option Nat} {Q : am_Q} {x0 : Int32} {K : Int32 → am_I → Prop} (hw : w_60 W x0 I K) (hW59 : ∀ (N : Nat) (T : Nat → Nat × Nat) (L : am_J) (r : Nat → Nat → Option Nat) (o : Int32) (I : am_I) (K : Int32 → am_I → Prop) (Q : am_Q), W 59 o I K → (∀ q I, K q I → Q (some (.int q)) (N, am_ts T, I, L, am_rs r)) → am_E S 59 (d + 3) 0 0 0 [.ref 14, .int o, am_jk, am_jk] [] (N, am_ts T, I, L, am_rs r) Q) (hW60 : ∀ (N : Nat) (T : Nat → Nat × Nat) (L : am_J) (r : Nat → Nat → Option Nat) (o : Int32) (I : am_I) (K : Int32 → am_I → Prop) (Q : am_Q), W 60 o I K → (∀ q I, K q I → Q (some (.int q)) (N, am_ts T, I, L, am_rs r)) → am_E S 60 (d + 3) 0 0 0 [.ref 14, .int o, am_jk, am_jk] [] (N, am_ts T, I, L, am_rs r) Q) (hW61 : ∀ (N : Nat) (T : Nat → Nat × Nat) (L : am_J) (r : Nat → Nat → Option Nat) (o : Int32) (I : am_I) (K : Int32 → am_I → Prop) (Q : am_Q), W 61 o I K → (∀ q I, K q I → Q (some (.int q)) (N, am_ts T, I, L, am_rs r)) → am_E S 61 (d + 3) 0 0 0 [.ref 14, .int o, am_jk] [] (N, am_ts T, I, L, am_rs r) Q) (hW68 : ∀ (N : Nat) (T : Nat → Nat × Nat) (L : am_J) (r : Nat → Nat → Option Nat) (o : Int32) (I : am_I) (K : Int32 → am_I → Prop) (Q : am_Q), W 68 o I K → (∀ q I, K q I → Q (some (.int q)) (N, am_ts T, I, L, am_rs r)) → am_E S 68 (d + 3) 0 0 0 [.ref 14, .int o, am_jk, am_jk] [] (N, am_ts T, I, L, am_rs r) Q) (hW69 : ∀ (N : Nat) (T : Nat → Nat × Nat) (L : am_J) (r : Nat → Nat → Option Nat) (o : Int32) (I : am_I) (K : Int32 → am_I → Prop) (Q : am_Q), W 69 o I K → (∀ q I, K q I → Q (some (.int q)) (N, am_ts T, I, L, am_rs r)) → am_E S 69 (d + 3) 0 0 0 [.ref 14, .int o, am_jk, am_jk] [] (N, am_ts T, I, L, am_rs r) Q) (hW70 : ∀ (N : Nat) (T : Nat → Nat × Nat) (L : am_J) (r : Nat → Nat → Option Nat) (o : Int32) (I : am_I) (K : Int32 → am_I → Prop) (Q : am_Q), W 70 o I K → (∀ q I, K q I → Q (some (.int q)) (N, am_ts T, I, L, am_rs r)) → am_E S 70 (d + 3) 0 0 0 [.ref 14, .int o, am_jk, am_jk] [] (N, am_ts T, I, L, am_rs r) Q) (hK : ∀ (q : Int32) (I1 : am_I), K q I1 → Q (some (.int q)) (N, am_ts T, I1, L, am_rs r)) : am_E S 60 (d + 4) 0 0 0 [.ref 14, .int x0, am_jk, am_jk] [] (N, am_ts T, I, L, am_rs r) Q := by
  unfold w_60 at hw
  try dsimp only at hw
  refine am_E.run [2] 2000 (show (am_E S 60 (d + 4) 0 0 2 [.ref 14, .int x0, am_jk, am_jk] [.int x0, .ref 14] (N, am_ts T, I, L, am_rs r) Q) from ?_)
  refine am_E.go ⟨am_ki_I N T L r _, hW61 _ _ _ _ _ _ _ _ hw (fun q1 I2 hk => ⟨q1, I2, rfl, rfl, hk⟩), ?_⟩
  intro v h9 hv
  obtain ⟨q1, I2, rfl, rfl, hw⟩ := hv
  try dsimp only at hw
  refine am_E.run [11] 2000 (show (if q1 = 0 then (((0 : Int32) = 0 ∨ (0 : Int32) = 1) ∧ Q (some (.int 0)) (N, am_ts T, I2, L, am_rs r)) else (am_E S 60 (d + 4) 0 0 11 [.ref 14, .int x0, am_jk, am_jk] [.ref 14] (N, am_ts T, I2, L, am_rs r) Q)) from ?_)
  by_cases hc : q1 = 0
  · rw [if_pos hc] at hw ⊢
    exact ⟨Or.inl rfl, hK _ _ hw⟩
  · rw [if_neg hc] at hw ⊢
    refine am_E.go ⟨fun v h9 => v = some (.int (f_66 I2)) ∧ h9 = (N, am_ts T, I2, L, am_rs r), s_66 ⟨rfl, rfl⟩, ?_⟩
    intro v h9 hv
    obtain ⟨rfl, rfl⟩ := hv
    refine am_E.run [17] 2000 (show (am_E S 60 (d + 4) 0 0 17 [.ref 14, .int x0, .int (f_66 I2), .int 0] [] (N, am_ts T, I2, L, am_rs r) Q) from ?_)
    obtain ⟨n17, hw⟩ := hw
    refine sl_60_17 hW59 hW60 hW61 hW68 hW69 hW70 n17 hw (fun o8 o9 I10 hw => ?_) hK
    · try dsimp only at hw
      refine am_E.run [] 2000 (show (((1 : Int32) = 0 ∨ (1 : Int32) = 1) ∧ Q (some (.int 1)) (N, am_ts T, I10, L, am_rs r)) from ?_)
      exact ⟨Or.inr rfl, hK _ _ hw⟩
/-- KeyKeepers$Reader.readPart(I)Z -/
def w_61 (W : Nat → Int32 → am_I → (Int32 → am_I → Prop) → Prop) (x0 : Int32) (I : am_I) (K : Int32 → am_I → Prop) : Prop :=
  if (I 14 8) = 2000091 then
    if x0 < 8 then
      w_58 I (fun I11 =>
        W 59 (x0 + 1) I11 (fun q12 I13 =>
          if q12 = 0 then
            K 0 I13
          else
            w_62 2000093 I13 (fun q14 I15 =>
              if q14 = 0 then
                K 0 I15
              else
                K 1 I15)))
    else
      K 0 I
  else
    if (50 : Int32) ≤ (I 14 9) then
      K 0 I
    else
      if (f_13 (I 14 8) 0 1000) = 0 then
        if (f_63 ((I 14 8) - 1000000) I) = 0 then
          K 0 I
        else
          if (f_13 (I 14 8) 0 1000) = 0 then
            w_65 (am_u I 14 9 ((I 14 9) + 1)) (fun q6 I7 =>
              (q6 = 0 ∨ q6 = 1) ∧ K q6 I7)
          else
            w_64 0 (I 14 8) (am_u I 14 9 ((I 14 9) + 1)) (fun q8 I9 =>
              w_58 I9 (fun I10 =>
                K 1 I10))
      else
        if (f_13 (I 14 8) 0 1000) = 0 then
          w_65 (am_u I 14 9 ((I 14 9) + 1)) (fun q1 I2 =>
            (q1 = 0 ∨ q1 = 1) ∧ K q1 I2)
        else
          w_64 0 (I 14 8) (am_u I 14 9 ((I 14 9) + 1)) (fun q3 I4 =>
            w_58 I4 (fun I5 =>
              K 1 I5))
set_option maxRecDepth 100000 in
theorem s_61 {W : Nat → Int32 → am_I → (Int32 → am_I → Prop) → Prop} {S : am_S} {d : Nat} {N : Nat} {T : Nat → Nat × Nat} {I : am_I} {L : am_J} {r : Nat → Nat → Option Nat} {Q : am_Q} {x0 : Int32} {K : Int32 → am_I → Prop} (hw : w_61 W x0 I K) (hW59 : ∀ (N : Nat) (T : Nat → Nat × Nat) (L : am_J) (r : Nat → Nat → Option Nat) (o : Int32) (I : am_I) (K : Int32 → am_I → Prop) (Q : am_Q), W 59 o I K → (∀ q I, K q I → Q (some (.int q)) (N, am_ts T, I, L, am_rs r)) → am_E S 59 (d + 3) 0 0 0 [.ref 14, .int o, am_jk, am_jk] [] (N, am_ts T, I, L, am_rs r) Q) (hW60 : ∀ (N : Nat) (T : Nat → Nat × Nat) (L : am_J) (r : Nat → Nat → Option Nat) (o : Int32) (I : am_I) (K : Int32 → am_I → Prop) (Q : am_Q), W 60 o I K → (∀ q I, K q I → Q (some (.int q)) (N, am_ts T, I, L, am_rs r)) → am_E S 60 (d + 3) 0 0 0 [.ref 14, .int o, am_jk, am_jk] [] (N, am_ts T, I, L, am_rs r) Q) (hW61 : ∀ (N : Nat) (T : Nat → Nat × Nat) (L : am_J) (r : Nat → Nat → Option Nat) (o : Int32) (I : am_I) (K : Int32 → am_I → Prop) (Q : am_Q), W 61 o I K → (∀ q I, K q I → Q (some (.int q)) (N, am_ts T, I, L, am_rs r)) → am_E S 61 (d + 3) 0 0 0 [.ref 14, .int o, am_jk] [] (N, am_ts T, I, L, am_rs r) Q) (hW68 : ∀ (N : Nat) (T : Nat → Nat × Nat) (L : am_J) (r : Nat → Nat → Option Nat) (o : Int32) (I : am_I) (K : Int32 → am_I → Prop) (Q : am_Q), W 68 o I K → (∀ q I, K q I → Q (some (.int q)) (N, am_ts T, I, L, am_rs r)) → am_E S 68 (d + 3) 0 0 0 [.ref 14, .int o, am_jk, am_jk] [] (N, am_ts T, I, L, am_rs r) Q) (hW69 : ∀ (N : Nat) (T : Nat → Nat × Nat) (L : am_J) (r : Nat → Nat → Option Nat) (o : Int32) (I : am_I) (K : Int32 → am_I → Prop) (Q : am_Q), W 69 o I K → (∀ q I, K q I → Q (some (.int q)) (N, am_ts T, I, L, am_rs r)) → am_E S 69 (d + 3) 0 0 0 [.ref 14, .int o, am_jk, am_jk] [] (N, am_ts T, I, L, am_rs r) Q) (hW70 : ∀ (N : Nat) (T : Nat → Nat × Nat) (L : am_J) (r : Nat → Nat → Option Nat) (o : Int32) (I : am_I) (K : Int32 → am_I → Prop) (Q : am_Q), W 70 o I K → (∀ q I, K q I → Q (some (.int q)) (N, am_ts T, I, L, am_rs r)) → am_E S 70 (d + 3) 0 0 0 [.ref 14, .int o, am_jk, am_jk] [] (N, am_ts T, I, L, am_rs r) Q) (hK : ∀ (q : Int32) (I1 : am_I), K q I1 → Q (some (.int q)) (N, am_ts T, I1, L, am_rs r)) : am_E S 61 (d + 4) 0 0 0 [.ref 14, .int x0, am_jk] [] (N, am_ts T, I, L, am_rs r) Q := by
  unfold w_61 at hw
  try dsimp only at hw
  refine am_E.run [18, 54] 2000 (show (if (I 14 8) = 2000091 then (if x0 < 8 then (am_E S 61 (d + 4) 0 0 18 [.ref 14, .int x0, am_jk] [.ref 14] (N, am_ts T, I, L, am_rs r) Q) else (((0 : Int32) = 0 ∨ (0 : Int32) = 1) ∧ Q (some (.int 0)) (N, am_ts T, I, L, am_rs r))) else (am_E S 61 (d + 4) 0 0 54 [.ref 14, .int x0, am_jk] [.int 1000, .int 0, .int (I 14 8)] (N, am_ts T, I, L, am_rs r) Q)) from ?_)
  by_cases hc : (I 14 8) = 2000091
  · rw [if_pos hc] at hw ⊢
    by_cases hc : x0 < 8
    · rw [if_pos hc] at hw ⊢
      refine am_E.go ⟨am_kv_I N T L r _, s_58 hw (fun I11 hk => ⟨I11, rfl, rfl, hk⟩), ?_⟩
      intro v h9 hv
      obtain ⟨I11, rfl, rfl, hw⟩ := hv
      try dsimp only at hw
      refine am_E.run [25] 2000 (show (am_E S 61 (d + 4) 0 0 25 [.ref 14, .int x0, am_jk] [.int (x0 + 1), .ref 14] (N, am_ts T, I11, L, am_rs r) Q) from ?_)
      refine am_E.go ⟨am_ki_I N T L r _, hW59 _ _ _ _ _ _ _ _ hw (fun q12 I13 hk => ⟨q12, I13, rfl, rfl, hk⟩), ?_⟩
      intro v h9 hv
      obtain ⟨q12, I13, rfl, rfl, hw⟩ := hv
      try dsimp only at hw
      refine am_E.run [34] 2000 (show (if q12 = 0 then (((0 : Int32) = 0 ∨ (0 : Int32) = 1) ∧ Q (some (.int 0)) (N, am_ts T, I13, L, am_rs r)) else (am_E S 61 (d + 4) 0 0 34 [.ref 14, .int x0, am_jk] [.int 2000093, .ref 14] (N, am_ts T, I13, L, am_rs r) Q)) from ?_)
      by_cases hc : q12 = 0
      · rw [if_pos hc] at hw ⊢
        exact ⟨Or.inl rfl, hK _ _ hw⟩
      · rw [if_neg hc] at hw ⊢
        refine am_E.go ⟨am_ki_I N T L r _, s_62 hw (fun q14 I15 hk => ⟨q14, I15, rfl, rfl, hk⟩), ?_⟩
        intro v h9 hv
        obtain ⟨q14, I15, rfl, rfl, hw⟩ := hv
        try dsimp only at hw
        refine am_E.run [] 2000 (show (if q14 = 0 then (((0 : Int32) = 0 ∨ (0 : Int32) = 1) ∧ Q (some (.int 0)) (N, am_ts T, I15, L, am_rs r)) else (((1 : Int32) = 0 ∨ (1 : Int32) = 1) ∧ Q (some (.int 1)) (N, am_ts T, I15, L, am_rs r))) from ?_)
        by_cases hc : q14 = 0
        · rw [if_pos hc] at hw ⊢
          exact ⟨Or.inl rfl, hK _ _ hw⟩
        · rw [if_neg hc] at hw ⊢
          exact ⟨Or.inr rfl, hK _ _ hw⟩
    · rw [if_neg hc] at hw ⊢
      exact ⟨Or.inl rfl, hK _ _ hw⟩
  · rw [if_neg hc] at hw ⊢
    refine am_E.go ⟨fun v h9 => v = some (.int (f_13 (I 14 8) 0 1000)) ∧ h9 = (N, am_ts T, I, L, am_rs r), s_13 ⟨rfl, rfl⟩, ?_⟩
    intro v h9 hv
    obtain ⟨rfl, rfl⟩ := hv
    refine am_E.run [79, 110, 121] 2000 (show (if (50 : Int32) ≤ (I 14 9) then (((0 : Int32) = 0 ∨ (0 : Int32) = 1) ∧ Q (some (.int 0)) (N, am_ts T, I, L, am_rs r)) else (if (f_13 (I 14 8) 0 1000) = 0 then (am_E S 61 (d + 4) 0 0 79 [.ref 14, .int x0, .int (f_13 (I 14 8) 0 1000)] [.int ((I 14 8) - 1000000), .ref 14] (N, am_ts T, I, L, am_rs r) Q) else (if (f_13 (I 14 8) 0 1000) = 0 then (am_E S 61 (d + 4) 0 0 121 [.ref 14, .int x0, .int (f_13 (I 14 8) 0 1000)] [.ref 14] (N, am_ts T, (am_u I 14 9 ((I 14 9) + 1)), L, am_rs r) Q) else (am_E S 61 (d + 4) 0 0 110 [.ref 14, .int x0, .int (f_13 (I 14 8) 0 1000)] [.int (I 14 8), .int 0, .ref 16] (N, am_ts T, (am_u I 14 9 ((I 14 9) + 1)), L, am_rs r) Q)))) from ?_)
    by_cases hc : (50 : Int32) ≤ (I 14 9)
    · rw [if_pos hc] at hw ⊢
      exact ⟨Or.inl rfl, hK _ _ hw⟩
    · rw [if_neg hc] at hw ⊢
      by_cases hc : (f_13 (I 14 8) 0 1000) = 0
      · rw [if_pos hc] at hw ⊢
        refine am_E.go ⟨fun v h9 => v = some (.int (f_63 ((I 14 8) - 1000000) I)) ∧ h9 = (N, am_ts T, I, L, am_rs r), s_63 ⟨rfl, rfl⟩, ?_⟩
        intro v h9 hv
        obtain ⟨rfl, rfl⟩ := hv
        refine am_E.run [110, 121] 2000 (show (if (f_63 ((I 14 8) - 1000000) I) = 0 then (((0 : Int32) = 0 ∨ (0 : Int32) = 1) ∧ Q (some (.int 0)) (N, am_ts T, I, L, am_rs r)) else (if (f_13 (I 14 8) 0 1000) = 0 then (am_E S 61 (d + 4) 0 0 121 [.ref 14, .int x0, .int (f_13 (I 14 8) 0 1000)] [.ref 14] (N, am_ts T, (am_u I 14 9 ((I 14 9) + 1)), L, am_rs r) Q) else (am_E S 61 (d + 4) 0 0 110 [.ref 14, .int x0, .int (f_13 (I 14 8) 0 1000)] [.int (I 14 8), .int 0, .ref 16] (N, am_ts T, (am_u I 14 9 ((I 14 9) + 1)), L, am_rs r) Q))) from ?_)
        by_cases hc : (f_63 ((I 14 8) - 1000000) I) = 0
        · rw [if_pos hc] at hw ⊢
          exact ⟨Or.inl rfl, hK _ _ hw⟩
        · rw [if_neg hc] at hw ⊢
          by_cases hc : (f_13 (I 14 8) 0 1000) = 0
          · rw [if_pos hc] at hw ⊢
            refine am_E.go ⟨am_ki_I N T L r _, s_65 hw (fun q6 I7 hk => ⟨q6, I7, rfl, rfl, hk⟩), ?_⟩
            intro v h9 hv
            obtain ⟨q6, I7, rfl, rfl, hw⟩ := hv
            try dsimp only at hw
            refine am_E.run [] 2000 (show ((q6 = 0 ∨ q6 = 1) ∧ Q (some (.int q6)) (N, am_ts T, I7, L, am_rs r)) from ?_)
            exact ⟨hw.1, hK _ _ hw.2⟩
          · rw [if_neg hc] at hw ⊢
            refine am_E.go ⟨am_ki_I N T L r _, s_64 hw (fun q8 I9 hk => ⟨q8, I9, rfl, rfl, hk⟩), ?_⟩
            intro v h9 hv
            obtain ⟨q8, I9, rfl, rfl, hw⟩ := hv
            try dsimp only at hw
            refine am_E.run [115] 2000 (show (am_E S 61 (d + 4) 0 0 115 [.ref 14, .int x0, .int (f_13 (I 14 8) 0 1000)] [.ref 14] (N, am_ts T, I9, L, am_rs r) Q) from ?_)
            refine am_E.go ⟨am_kv_I N T L r _, s_58 hw (fun I10 hk => ⟨I10, rfl, rfl, hk⟩), ?_⟩
            intro v h9 hv
            obtain ⟨I10, rfl, rfl, hw⟩ := hv
            try dsimp only at hw
            refine am_E.run [] 2000 (show (((1 : Int32) = 0 ∨ (1 : Int32) = 1) ∧ Q (some (.int 1)) (N, am_ts T, I10, L, am_rs r)) from ?_)
            exact ⟨Or.inr rfl, hK _ _ hw⟩
      · rw [if_neg hc] at hw ⊢
        by_cases hc : (f_13 (I 14 8) 0 1000) = 0
        · rw [if_pos hc] at hw ⊢
          refine am_E.go ⟨am_ki_I N T L r _, s_65 hw (fun q1 I2 hk => ⟨q1, I2, rfl, rfl, hk⟩), ?_⟩
          intro v h9 hv
          obtain ⟨q1, I2, rfl, rfl, hw⟩ := hv
          try dsimp only at hw
          refine am_E.run [] 2000 (show ((q1 = 0 ∨ q1 = 1) ∧ Q (some (.int q1)) (N, am_ts T, I2, L, am_rs r)) from ?_)
          exact ⟨hw.1, hK _ _ hw.2⟩
        · rw [if_neg hc] at hw ⊢
          refine am_E.go ⟨am_ki_I N T L r _, s_64 hw (fun q3 I4 hk => ⟨q3, I4, rfl, rfl, hk⟩), ?_⟩
          intro v h9 hv
          obtain ⟨q3, I4, rfl, rfl, hw⟩ := hv
          try dsimp only at hw
          refine am_E.run [115] 2000 (show (am_E S 61 (d + 4) 0 0 115 [.ref 14, .int x0, .int (f_13 (I 14 8) 0 1000)] [.ref 14] (N, am_ts T, I4, L, am_rs r) Q) from ?_)
          refine am_E.go ⟨am_kv_I N T L r _, s_58 hw (fun I5 hk => ⟨I5, rfl, rfl, hk⟩), ?_⟩
          intro v h9 hv
          obtain ⟨I5, rfl, rfl, hw⟩ := hv
          try dsimp only at hw
          refine am_E.run [] 2000 (show (((1 : Int32) = 0 ∨ (1 : Int32) = 1) ∧ Q (some (.int 1)) (N, am_ts T, I5, L, am_rs r)) from ?_)
          exact ⟨Or.inr rfl, hK _ _ hw⟩
def lw_68_12 (W : Nat → Int32 → am_I → (Int32 → am_I → Prop) → Prop) : Nat → Int32 → Int32 → am_I → (Int32 → am_I → Prop) → (Int32 → am_I → Prop) → Prop
  | 0, _, _, _, _, _ => False
  | n + 1, v1, v2, I, E0, R =>
    if (400 : Int32) ≤ v2 then
      E0 v2 I
    else
      w_62 1000013 I (fun q3 I4 =>
        if q3 = 0 then
          E0 v2 I4
        else
          w_64 13 0 I4 (fun q5 I6 =>
            W 69 v1 I6 (fun q7 I8 =>
              if q7 = 0 then
                R 0 I8
              else
                w_71 q5 13 I8 (fun I9 =>
                  lw_68_12 W n v1 (v2 + 1) I9 E0 R))))
set_option maxRecDepth 100000 in
theorem sl_68_12 {W : Nat → Int32 → am_I → (Int32 → am_I → Prop) → Prop} {S : am_S} {d : Nat} {Q : am_Q} {N : Nat} {T : Nat → Nat × Nat} {L : am_J} {r : Nat → Nat → Option Nat} {E0 : Int32 → am_I → Prop} {R : Int32 → am_I → Prop} (hW59 : ∀ (N : Nat) (T : Nat → Nat × Nat) (L : am_J) (r : Nat → Nat → Option Nat) (o : Int32) (I : am_I) (K : Int32 → am_I → Prop) (Q : am_Q), W 59 o I K → (∀ q I, K q I → Q (some (.int q)) (N, am_ts T, I, L, am_rs r)) → am_E S 59 (d + 3) 0 0 0 [.ref 14, .int o, am_jk, am_jk] [] (N, am_ts T, I, L, am_rs r) Q) (hW60 : ∀ (N : Nat) (T : Nat → Nat × Nat) (L : am_J) (r : Nat → Nat → Option Nat) (o : Int32) (I : am_I) (K : Int32 → am_I → Prop) (Q : am_Q), W 60 o I K → (∀ q I, K q I → Q (some (.int q)) (N, am_ts T, I, L, am_rs r)) → am_E S 60 (d + 3) 0 0 0 [.ref 14, .int o, am_jk, am_jk] [] (N, am_ts T, I, L, am_rs r) Q) (hW61 : ∀ (N : Nat) (T : Nat → Nat × Nat) (L : am_J) (r : Nat → Nat → Option Nat) (o : Int32) (I : am_I) (K : Int32 → am_I → Prop) (Q : am_Q), W 61 o I K → (∀ q I, K q I → Q (some (.int q)) (N, am_ts T, I, L, am_rs r)) → am_E S 61 (d + 3) 0 0 0 [.ref 14, .int o, am_jk] [] (N, am_ts T, I, L, am_rs r) Q) (hW68 : ∀ (N : Nat) (T : Nat → Nat × Nat) (L : am_J) (r : Nat → Nat → Option Nat) (o : Int32) (I : am_I) (K : Int32 → am_I → Prop) (Q : am_Q), W 68 o I K → (∀ q I, K q I → Q (some (.int q)) (N, am_ts T, I, L, am_rs r)) → am_E S 68 (d + 3) 0 0 0 [.ref 14, .int o, am_jk, am_jk] [] (N, am_ts T, I, L, am_rs r) Q) (hW69 : ∀ (N : Nat) (T : Nat → Nat × Nat) (L : am_J) (r : Nat → Nat → Option Nat) (o : Int32) (I : am_I) (K : Int32 → am_I → Prop) (Q : am_Q), W 69 o I K → (∀ q I, K q I → Q (some (.int q)) (N, am_ts T, I, L, am_rs r)) → am_E S 69 (d + 3) 0 0 0 [.ref 14, .int o, am_jk, am_jk] [] (N, am_ts T, I, L, am_rs r) Q) (hW70 : ∀ (N : Nat) (T : Nat → Nat × Nat) (L : am_J) (r : Nat → Nat → Option Nat) (o : Int32) (I : am_I) (K : Int32 → am_I → Prop) (Q : am_Q), W 70 o I K → (∀ q I, K q I → Q (some (.int q)) (N, am_ts T, I, L, am_rs r)) → am_E S 70 (d + 3) 0 0 0 [.ref 14, .int o, am_jk, am_jk] [] (N, am_ts T, I, L, am_rs r) Q) : ∀ (n : Nat) {v1 : Int32} {v2 : Int32} {I : am_I}, lw_68_12 W n v1 v2 I E0 R → (∀ (o2 : Int32) (I1 : am_I), E0 o2 I1 → am_E S 68 (d + 4) 0 0 65 [.ref 14, .int v1, .int o2, am_jk] [] (N, am_ts T, I1, L, am_rs r) Q) → (∀ (q : Int32) (I1 : am_I), R q I1 → Q (some (.int q)) (N, am_ts T, I1, L, am_rs r)) → am_E S 68 (d + 4) 0 0 12 [.ref 14, .int v1, .int v2, am_jk] [] (N, am_ts T, I, L, am_rs r) Q
  | 0, _, _, _, hw, _, _ => hw.elim
  | n + 1, v1, v2, I, hw, hE0, hR => by
    have ih := @sl_68_12 W S d Q N T L r E0 R hW59 hW60 hW61 hW68 hW69 hW70 n
    unfold lw_68_12 at hw
    try dsimp only at hw
    refine am_E.run [22, 65] 2000 (show (if (400 : Int32) ≤ v2 then (am_E S 68 (d + 4) 0 0 65 [.ref 14, .int v1, .int v2, am_jk] [] (N, am_ts T, I, L, am_rs r) Q) else (am_E S 68 (d + 4) 0 0 22 [.ref 14, .int v1, .int v2, am_jk] [.int 1000013, .ref 14] (N, am_ts T, I, L, am_rs r) Q)) from ?_)
    by_cases hc : (400 : Int32) ≤ v2
    · rw [if_pos hc] at hw ⊢
      exact hE0 _ _ hw
    · rw [if_neg hc] at hw ⊢
      refine am_E.go ⟨am_ki_I N T L r _, s_62 hw (fun q3 I4 hk => ⟨q3, I4, rfl, rfl, hk⟩), ?_⟩
      intro v h9 hv
      obtain ⟨q3, I4, rfl, rfl, hw⟩ := hv
      try dsimp only at hw
      refine am_E.run [35, 65] 2000 (show (if q3 = 0 then (am_E S 68 (d + 4) 0 0 65 [.ref 14, .int v1, .int v2, am_jk] [] (N, am_ts T, I4, L, am_rs r) Q) else (am_E S 68 (d + 4) 0 0 35 [.ref 14, .int v1, .int v2, am_jk] [.int 0, .int 13, .ref 16] (N, am_ts T, I4, L, am_rs r) Q)) from ?_)
      by_cases hc : q3 = 0
      · rw [if_pos hc] at hw ⊢
        exact hE0 _ _ hw
      · rw [if_neg hc] at hw ⊢
        refine am_E.go ⟨am_ki_I N T L r _, s_64 hw (fun q5 I6 hk => ⟨q5, I6, rfl, rfl, hk⟩), ?_⟩
        intro v h9 hv
        obtain ⟨q5, I6, rfl, rfl, hw⟩ := hv
        try dsimp only at hw
        refine am_E.run [41] 2000 (show (am_E S 68 (d + 4) 0 0 41 [.ref 14, .int v1, .int v2, .int q5] [.int v1, .ref 14] (N, am_ts T, I6, L, am_rs r) Q) from ?_)
        refine am_E.go ⟨am_ki_I N T L r _, hW69 _ _ _ _ _ _ _ _ hw (fun q7 I8 hk => ⟨q7, I8, rfl, rfl, hk⟩), ?_⟩
        intro v h9 hv
        obtain ⟨q7, I8, rfl, rfl, hw⟩ := hv
        try dsimp only at hw
        refine am_E.run [56] 2000 (show (if q7 = 0 then (((0 : Int32) = 0 ∨ (0 : Int32) = 1) ∧ Q (some (.int 0)) (N, am_ts T, I8, L, am_rs r)) else (am_E S 68 (d + 4) 0 0 56 [.ref 14, .int v1, .int v2, .int q5] [.int 13, .int q5, .ref 16] (N, am_ts T, I8, L, am_rs r) Q)) from ?_)
        by_cases hc : q7 = 0
        · rw [if_pos hc] at hw ⊢
          exact ⟨Or.inl rfl, hR _ _ hw⟩
        · rw [if_neg hc] at hw ⊢
          refine am_E.go ⟨am_kv_I N T L r _, s_71 hw (fun I9 hk => ⟨I9, rfl, rfl, hk⟩), ?_⟩
          intro v h9 hv
          obtain ⟨I9, rfl, rfl, hw⟩ := hv
          try dsimp only at hw
          refine am_E.run [12] 2000 (show (am_E S 68 (d + 4) 0 0 12 [.ref 14, .int v1, .int (v2 + 1), .int q5] [] (N, am_ts T, I9, L, am_rs r) Q) from ?_)
          exact am_E.junk (ih hw hE0 hR) (am_le.cons (am_le.cons (am_le.cons (am_le.jk am_le.nil))))
/-- KeyKeepers$Reader.readTest(I)Z -/
def w_68 (W : Nat → Int32 → am_I → (Int32 → am_I → Prop) → Prop) (x0 : Int32) (I : am_I) (K : Int32 → am_I → Prop) : Prop :=
  W 69 x0 I (fun q1 I2 =>
    if q1 = 0 then
      K 0 I2
    else
      ∃ n12, lw_68_12 W n12 x0 0 I2 (fun o10 I11 =>
        K 1 I11) K)
set_option maxRecDepth 100000 in
theorem s_68 {W : Nat → Int32 → am_I → (Int32 → am_I → Prop) → Prop} {S : am_S} {d : Nat} {N : Nat} {T : Nat → Nat × Nat} {I : am_I} {L : am_J} {r : Nat → Nat → Option Nat} {Q : am_Q} {x0 : Int32} {K : Int32 → am_I → Prop} (hw : w_68 W x0 I K) (hW59 : ∀ (N : Nat) (T : Nat → Nat × Nat) (L : am_J) (r : Nat → Nat → Option Nat) (o : Int32) (I : am_I) (K : Int32 → am_I → Prop) (Q : am_Q), W 59 o I K → (∀ q I, K q I → Q (some (.int q)) (N, am_ts T, I, L, am_rs r)) → am_E S 59 (d + 3) 0 0 0 [.ref 14, .int o, am_jk, am_jk] [] (N, am_ts T, I, L, am_rs r) Q) (hW60 : ∀ (N : Nat) (T : Nat → Nat × Nat) (L : am_J) (r : Nat → Nat → Option Nat) (o : Int32) (I : am_I) (K : Int32 → am_I → Prop) (Q : am_Q), W 60 o I K → (∀ q I, K q I → Q (some (.int q)) (N, am_ts T, I, L, am_rs r)) → am_E S 60 (d + 3) 0 0 0 [.ref 14, .int o, am_jk, am_jk] [] (N, am_ts T, I, L, am_rs r) Q) (hW61 : ∀ (N : Nat) (T : Nat → Nat × Nat) (L : am_J) (r : Nat → Nat → Option Nat) (o : Int32) (I : am_I) (K : Int32 → am_I → Prop) (Q : am_Q), W 61 o I K → (∀ q I, K q I → Q (some (.int q)) (N, am_ts T, I, L, am_rs r)) → am_E S 61 (d + 3) 0 0 0 [.ref 14, .int o, am_jk] [] (N, am_ts T, I, L, am_rs r) Q) (hW68 : ∀ (N : Nat) (T : Nat → Nat × Nat) (L : am_J) (r : Nat → Nat → Option Nat) (o : Int32) (I : am_I) (K : Int32 → am_I → Prop) (Q : am_Q), W 68 o I K → (∀ q I, K q I → Q (some (.int q)) (N, am_ts T, I, L, am_rs r)) → am_E S 68 (d + 3) 0 0 0 [.ref 14, .int o, am_jk, am_jk] [] (N, am_ts T, I, L, am_rs r) Q) (hW69 : ∀ (N : Nat) (T : Nat → Nat × Nat) (L : am_J) (r : Nat → Nat → Option Nat) (o : Int32) (I : am_I) (K : Int32 → am_I → Prop) (Q : am_Q), W 69 o I K → (∀ q I, K q I → Q (some (.int q)) (N, am_ts T, I, L, am_rs r)) → am_E S 69 (d + 3) 0 0 0 [.ref 14, .int o, am_jk, am_jk] [] (N, am_ts T, I, L, am_rs r) Q) (hW70 : ∀ (N : Nat) (T : Nat → Nat × Nat) (L : am_J) (r : Nat → Nat → Option Nat) (o : Int32) (I : am_I) (K : Int32 → am_I → Prop) (Q : am_Q), W 70 o I K → (∀ q I, K q I → Q (some (.int q)) (N, am_ts T, I, L, am_rs r)) → am_E S 70 (d + 3) 0 0 0 [.ref 14, .int o, am_jk, am_jk] [] (N, am_ts T, I, L, am_rs r) Q) (hK : ∀ (q : Int32) (I1 : am_I), K q I1 → Q (some (.int q)) (N, am_ts T, I1, L, am_rs r)) : am_E S 68 (d + 4) 0 0 0 [.ref 14, .int x0, am_jk, am_jk] [] (N, am_ts T, I, L, am_rs r) Q := by
  unfold w_68 at hw
  try dsimp only at hw
  refine am_E.run [2] 2000 (show (am_E S 68 (d + 4) 0 0 2 [.ref 14, .int x0, am_jk, am_jk] [.int x0, .ref 14] (N, am_ts T, I, L, am_rs r) Q) from ?_)
  refine am_E.go ⟨am_ki_I N T L r _, hW69 _ _ _ _ _ _ _ _ hw (fun q1 I2 hk => ⟨q1, I2, rfl, rfl, hk⟩), ?_⟩
  intro v h9 hv
  obtain ⟨q1, I2, rfl, rfl, hw⟩ := hv
  try dsimp only at hw
  refine am_E.run [12] 2000 (show (if q1 = 0 then (((0 : Int32) = 0 ∨ (0 : Int32) = 1) ∧ Q (some (.int 0)) (N, am_ts T, I2, L, am_rs r)) else (am_E S 68 (d + 4) 0 0 12 [.ref 14, .int x0, .int 0, am_jk] [] (N, am_ts T, I2, L, am_rs r) Q)) from ?_)
  by_cases hc : q1 = 0
  · rw [if_pos hc] at hw ⊢
    exact ⟨Or.inl rfl, hK _ _ hw⟩
  · rw [if_neg hc] at hw ⊢
    obtain ⟨n12, hw⟩ := hw
    refine sl_68_12 hW59 hW60 hW61 hW68 hW69 hW70 n12 hw (fun o10 I11 hw => ?_) hK
    · try dsimp only at hw
      refine am_E.run [] 2000 (show (((1 : Int32) = 0 ∨ (1 : Int32) = 1) ∧ Q (some (.int 1)) (N, am_ts T, I11, L, am_rs r)) from ?_)
      exact ⟨Or.inr rfl, hK _ _ hw⟩
def lw_69_12 (W : Nat → Int32 → am_I → (Int32 → am_I → Prop) → Prop) : Nat → Int32 → Int32 → am_I → (Int32 → am_I → Prop) → (Int32 → am_I → Prop) → Prop
  | 0, _, _, _, _, _ => False
  | n + 1, v1, v2, I, E0, R =>
    if (400 : Int32) ≤ v2 then
      E0 v2 I
    else
      w_62 1000014 I (fun q3 I4 =>
        if q3 = 0 then
          E0 v2 I4
        else
          w_64 14 0 I4 (fun q5 I6 =>
            W 70 v1 I6 (fun q7 I8 =>
              if q7 = 0 then
                R 0 I8
              else
                w_71 q5 14 I8 (fun I9 =>
                  lw_69_12 W n v1 (v2 + 1) I9 E0 R))))
set_option maxRecDepth 100000 in
theorem sl_69_12 {W : Nat → Int32 → am_I → (Int32 → am_I → Prop) → Prop} {S : am_S} {d : Nat} {Q : am_Q} {N : Nat} {T : Nat → Nat × Nat} {L : am_J} {r : Nat → Nat → Option Nat} {E0 : Int32 → am_I → Prop} {R : Int32 → am_I → Prop} (hW59 : ∀ (N : Nat) (T : Nat → Nat × Nat) (L : am_J) (r : Nat → Nat → Option Nat) (o : Int32) (I : am_I) (K : Int32 → am_I → Prop) (Q : am_Q), W 59 o I K → (∀ q I, K q I → Q (some (.int q)) (N, am_ts T, I, L, am_rs r)) → am_E S 59 (d + 3) 0 0 0 [.ref 14, .int o, am_jk, am_jk] [] (N, am_ts T, I, L, am_rs r) Q) (hW60 : ∀ (N : Nat) (T : Nat → Nat × Nat) (L : am_J) (r : Nat → Nat → Option Nat) (o : Int32) (I : am_I) (K : Int32 → am_I → Prop) (Q : am_Q), W 60 o I K → (∀ q I, K q I → Q (some (.int q)) (N, am_ts T, I, L, am_rs r)) → am_E S 60 (d + 3) 0 0 0 [.ref 14, .int o, am_jk, am_jk] [] (N, am_ts T, I, L, am_rs r) Q) (hW61 : ∀ (N : Nat) (T : Nat → Nat × Nat) (L : am_J) (r : Nat → Nat → Option Nat) (o : Int32) (I : am_I) (K : Int32 → am_I → Prop) (Q : am_Q), W 61 o I K → (∀ q I, K q I → Q (some (.int q)) (N, am_ts T, I, L, am_rs r)) → am_E S 61 (d + 3) 0 0 0 [.ref 14, .int o, am_jk] [] (N, am_ts T, I, L, am_rs r) Q) (hW68 : ∀ (N : Nat) (T : Nat → Nat × Nat) (L : am_J) (r : Nat → Nat → Option Nat) (o : Int32) (I : am_I) (K : Int32 → am_I → Prop) (Q : am_Q), W 68 o I K → (∀ q I, K q I → Q (some (.int q)) (N, am_ts T, I, L, am_rs r)) → am_E S 68 (d + 3) 0 0 0 [.ref 14, .int o, am_jk, am_jk] [] (N, am_ts T, I, L, am_rs r) Q) (hW69 : ∀ (N : Nat) (T : Nat → Nat × Nat) (L : am_J) (r : Nat → Nat → Option Nat) (o : Int32) (I : am_I) (K : Int32 → am_I → Prop) (Q : am_Q), W 69 o I K → (∀ q I, K q I → Q (some (.int q)) (N, am_ts T, I, L, am_rs r)) → am_E S 69 (d + 3) 0 0 0 [.ref 14, .int o, am_jk, am_jk] [] (N, am_ts T, I, L, am_rs r) Q) (hW70 : ∀ (N : Nat) (T : Nat → Nat × Nat) (L : am_J) (r : Nat → Nat → Option Nat) (o : Int32) (I : am_I) (K : Int32 → am_I → Prop) (Q : am_Q), W 70 o I K → (∀ q I, K q I → Q (some (.int q)) (N, am_ts T, I, L, am_rs r)) → am_E S 70 (d + 3) 0 0 0 [.ref 14, .int o, am_jk, am_jk] [] (N, am_ts T, I, L, am_rs r) Q) : ∀ (n : Nat) {v1 : Int32} {v2 : Int32} {I : am_I}, lw_69_12 W n v1 v2 I E0 R → (∀ (o2 : Int32) (I1 : am_I), E0 o2 I1 → am_E S 69 (d + 4) 0 0 65 [.ref 14, .int v1, .int o2, am_jk] [] (N, am_ts T, I1, L, am_rs r) Q) → (∀ (q : Int32) (I1 : am_I), R q I1 → Q (some (.int q)) (N, am_ts T, I1, L, am_rs r)) → am_E S 69 (d + 4) 0 0 12 [.ref 14, .int v1, .int v2, am_jk] [] (N, am_ts T, I, L, am_rs r) Q
  | 0, _, _, _, hw, _, _ => hw.elim
  | n + 1, v1, v2, I, hw, hE0, hR => by
    have ih := @sl_69_12 W S d Q N T L r E0 R hW59 hW60 hW61 hW68 hW69 hW70 n
    unfold lw_69_12 at hw
    try dsimp only at hw
    refine am_E.run [22, 65] 2000 (show (if (400 : Int32) ≤ v2 then (am_E S 69 (d + 4) 0 0 65 [.ref 14, .int v1, .int v2, am_jk] [] (N, am_ts T, I, L, am_rs r) Q) else (am_E S 69 (d + 4) 0 0 22 [.ref 14, .int v1, .int v2, am_jk] [.int 1000014, .ref 14] (N, am_ts T, I, L, am_rs r) Q)) from ?_)
    by_cases hc : (400 : Int32) ≤ v2
    · rw [if_pos hc] at hw ⊢
      exact hE0 _ _ hw
    · rw [if_neg hc] at hw ⊢
      refine am_E.go ⟨am_ki_I N T L r _, s_62 hw (fun q3 I4 hk => ⟨q3, I4, rfl, rfl, hk⟩), ?_⟩
      intro v h9 hv
      obtain ⟨q3, I4, rfl, rfl, hw⟩ := hv
      try dsimp only at hw
      refine am_E.run [35, 65] 2000 (show (if q3 = 0 then (am_E S 69 (d + 4) 0 0 65 [.ref 14, .int v1, .int v2, am_jk] [] (N, am_ts T, I4, L, am_rs r) Q) else (am_E S 69 (d + 4) 0 0 35 [.ref 14, .int v1, .int v2, am_jk] [.int 0, .int 14, .ref 16] (N, am_ts T, I4, L, am_rs r) Q)) from ?_)
      by_cases hc : q3 = 0
      · rw [if_pos hc] at hw ⊢
        exact hE0 _ _ hw
      · rw [if_neg hc] at hw ⊢
        refine am_E.go ⟨am_ki_I N T L r _, s_64 hw (fun q5 I6 hk => ⟨q5, I6, rfl, rfl, hk⟩), ?_⟩
        intro v h9 hv
        obtain ⟨q5, I6, rfl, rfl, hw⟩ := hv
        try dsimp only at hw
        refine am_E.run [41] 2000 (show (am_E S 69 (d + 4) 0 0 41 [.ref 14, .int v1, .int v2, .int q5] [.int v1, .ref 14] (N, am_ts T, I6, L, am_rs r) Q) from ?_)
        refine am_E.go ⟨am_ki_I N T L r _, hW70 _ _ _ _ _ _ _ _ hw (fun q7 I8 hk => ⟨q7, I8, rfl, rfl, hk⟩), ?_⟩
        intro v h9 hv
        obtain ⟨q7, I8, rfl, rfl, hw⟩ := hv
        try dsimp only at hw
        refine am_E.run [56] 2000 (show (if q7 = 0 then (((0 : Int32) = 0 ∨ (0 : Int32) = 1) ∧ Q (some (.int 0)) (N, am_ts T, I8, L, am_rs r)) else (am_E S 69 (d + 4) 0 0 56 [.ref 14, .int v1, .int v2, .int q5] [.int 14, .int q5, .ref 16] (N, am_ts T, I8, L, am_rs r) Q)) from ?_)
        by_cases hc : q7 = 0
        · rw [if_pos hc] at hw ⊢
          exact ⟨Or.inl rfl, hR _ _ hw⟩
        · rw [if_neg hc] at hw ⊢
          refine am_E.go ⟨am_kv_I N T L r _, s_71 hw (fun I9 hk => ⟨I9, rfl, rfl, hk⟩), ?_⟩
          intro v h9 hv
          obtain ⟨I9, rfl, rfl, hw⟩ := hv
          try dsimp only at hw
          refine am_E.run [12] 2000 (show (am_E S 69 (d + 4) 0 0 12 [.ref 14, .int v1, .int (v2 + 1), .int q5] [] (N, am_ts T, I9, L, am_rs r) Q) from ?_)
          exact am_E.junk (ih hw hE0 hR) (am_le.cons (am_le.cons (am_le.cons (am_le.jk am_le.nil))))
/-- KeyKeepers$Reader.readBoth(I)Z -/
def w_69 (W : Nat → Int32 → am_I → (Int32 → am_I → Prop) → Prop) (x0 : Int32) (I : am_I) (K : Int32 → am_I → Prop) : Prop :=
  W 70 x0 I (fun q1 I2 =>
    if q1 = 0 then
      K 0 I2
    else
      ∃ n12, lw_69_12 W n12 x0 0 I2 (fun o10 I11 =>
        K 1 I11) K)
set_option maxRecDepth 100000 in
theorem s_69 {W : Nat → Int32 → am_I → (Int32 → am_I → Prop) → Prop} {S : am_S} {d : Nat} {N : Nat} {T : Nat → Nat × Nat} {I : am_I} {L : am_J} {r : Nat → Nat → Option Nat} {Q : am_Q} {x0 : Int32} {K : Int32 → am_I → Prop} (hw : w_69 W x0 I K) (hW59 : ∀ (N : Nat) (T : Nat → Nat × Nat) (L : am_J) (r : Nat → Nat → Option Nat) (o : Int32) (I : am_I) (K : Int32 → am_I → Prop) (Q : am_Q), W 59 o I K → (∀ q I, K q I → Q (some (.int q)) (N, am_ts T, I, L, am_rs r)) → am_E S 59 (d + 3) 0 0 0 [.ref 14, .int o, am_jk, am_jk] [] (N, am_ts T, I, L, am_rs r) Q) (hW60 : ∀ (N : Nat) (T : Nat → Nat × Nat) (L : am_J) (r : Nat → Nat → Option Nat) (o : Int32) (I : am_I) (K : Int32 → am_I → Prop) (Q : am_Q), W 60 o I K → (∀ q I, K q I → Q (some (.int q)) (N, am_ts T, I, L, am_rs r)) → am_E S 60 (d + 3) 0 0 0 [.ref 14, .int o, am_jk, am_jk] [] (N, am_ts T, I, L, am_rs r) Q) (hW61 : ∀ (N : Nat) (T : Nat → Nat × Nat) (L : am_J) (r : Nat → Nat → Option Nat) (o : Int32) (I : am_I) (K : Int32 → am_I → Prop) (Q : am_Q), W 61 o I K → (∀ q I, K q I → Q (some (.int q)) (N, am_ts T, I, L, am_rs r)) → am_E S 61 (d + 3) 0 0 0 [.ref 14, .int o, am_jk] [] (N, am_ts T, I, L, am_rs r) Q) (hW68 : ∀ (N : Nat) (T : Nat → Nat × Nat) (L : am_J) (r : Nat → Nat → Option Nat) (o : Int32) (I : am_I) (K : Int32 → am_I → Prop) (Q : am_Q), W 68 o I K → (∀ q I, K q I → Q (some (.int q)) (N, am_ts T, I, L, am_rs r)) → am_E S 68 (d + 3) 0 0 0 [.ref 14, .int o, am_jk, am_jk] [] (N, am_ts T, I, L, am_rs r) Q) (hW69 : ∀ (N : Nat) (T : Nat → Nat × Nat) (L : am_J) (r : Nat → Nat → Option Nat) (o : Int32) (I : am_I) (K : Int32 → am_I → Prop) (Q : am_Q), W 69 o I K → (∀ q I, K q I → Q (some (.int q)) (N, am_ts T, I, L, am_rs r)) → am_E S 69 (d + 3) 0 0 0 [.ref 14, .int o, am_jk, am_jk] [] (N, am_ts T, I, L, am_rs r) Q) (hW70 : ∀ (N : Nat) (T : Nat → Nat × Nat) (L : am_J) (r : Nat → Nat → Option Nat) (o : Int32) (I : am_I) (K : Int32 → am_I → Prop) (Q : am_Q), W 70 o I K → (∀ q I, K q I → Q (some (.int q)) (N, am_ts T, I, L, am_rs r)) → am_E S 70 (d + 3) 0 0 0 [.ref 14, .int o, am_jk, am_jk] [] (N, am_ts T, I, L, am_rs r) Q) (hK : ∀ (q : Int32) (I1 : am_I), K q I1 → Q (some (.int q)) (N, am_ts T, I1, L, am_rs r)) : am_E S 69 (d + 4) 0 0 0 [.ref 14, .int x0, am_jk, am_jk] [] (N, am_ts T, I, L, am_rs r) Q := by
  unfold w_69 at hw
  try dsimp only at hw
  refine am_E.run [2] 2000 (show (am_E S 69 (d + 4) 0 0 2 [.ref 14, .int x0, am_jk, am_jk] [.int x0, .ref 14] (N, am_ts T, I, L, am_rs r) Q) from ?_)
  refine am_E.go ⟨am_ki_I N T L r _, hW70 _ _ _ _ _ _ _ _ hw (fun q1 I2 hk => ⟨q1, I2, rfl, rfl, hk⟩), ?_⟩
  intro v h9 hv
  obtain ⟨q1, I2, rfl, rfl, hw⟩ := hv
  try dsimp only at hw
  refine am_E.run [12] 2000 (show (if q1 = 0 then (((0 : Int32) = 0 ∨ (0 : Int32) = 1) ∧ Q (some (.int 0)) (N, am_ts T, I2, L, am_rs r)) else (am_E S 69 (d + 4) 0 0 12 [.ref 14, .int x0, .int 0, am_jk] [] (N, am_ts T, I2, L, am_rs r) Q)) from ?_)
  by_cases hc : q1 = 0
  · rw [if_pos hc] at hw ⊢
    exact ⟨Or.inl rfl, hK _ _ hw⟩
  · rw [if_neg hc] at hw ⊢
    obtain ⟨n12, hw⟩ := hw
    refine sl_69_12 hW59 hW60 hW61 hW68 hW69 hW70 n12 hw (fun o10 I11 hw => ?_) hK
    · try dsimp only at hw
      refine am_E.run [] 2000 (show (((1 : Int32) = 0 ∨ (1 : Int32) = 1) ∧ Q (some (.int 1)) (N, am_ts T, I11, L, am_rs r)) from ?_)
      exact ⟨Or.inr rfl, hK _ _ hw⟩
