/-- KeyKeepers.out(I)I -/
def w_156 (x0 : Int32) (I : am_I) (K : Int32 → am_I → Prop) : Prop :=
  w_157 I (fun I1 =>
    if x0 = (-1) then
      K (I1 59 1) I1
    else
      if (f_13 x0 0 ((I1 59 1) - 1)) = 0 then
        K (-1) I1
      else
        ¬ (x0 < 0 ∨ 256 ≤ Int32.toNatClampNeg x0) ∧
        K (I1 60 (Int32.toNatClampNeg x0)) I1)
set_option maxRecDepth 100000 in
theorem s_156 {S : am_S} {d : Nat} {N : Nat} {T : Nat → Nat × Nat} {I : am_I} {L : am_J} {r : Nat → Nat → Option Nat} {Q : am_Q} {x0 : Int32} {K : Int32 → am_I → Prop} (hw : w_156 x0 I K) (hK : ∀ (q : Int32) (I1 : am_I), K q I1 → Q (some (.int q)) (N, am_ts T, I1, L, am_rs r)) : am_E S 156 (d + 3) 0 0 0 [.ref 0, .int x0] [] (N, am_ts T, I, L, am_rs r) Q := by
  unfold w_156 at hw
  try dsimp only at hw
  refine am_E.run [8] 2000 (show (am_E S 156 (d + 3) 0 0 8 [.ref 0, .int x0] [.ref 1, .ref 59] (N, am_ts T, I, L, am_rs r) Q) from ?_)
  refine am_E.go ⟨am_kv_I N T L r _, s_157 hw (fun I1 hk => ⟨I1, rfl, rfl, hk⟩), ?_⟩
  intro v h9 hv
  obtain ⟨I1, rfl, rfl, hw⟩ := hv
  try dsimp only at hw
  refine am_E.run [35] 2000 (show (if x0 = (-1) then (True ∧ Q (some (.int (I1 59 1))) (N, am_ts T, I1, L, am_rs r)) else (am_E S 156 (d + 3) 0 0 35 [.ref 0, .int x0] [.int ((I1 59 1) - 1), .int 0, .int x0] (N, am_ts T, I1, L, am_rs r) Q)) from ?_)
  by_cases hc : x0 = (-1)
  · rw [if_pos hc] at hw ⊢
    exact ⟨trivial, hK _ _ hw⟩
  · rw [if_neg hc] at hw ⊢
    refine am_E.go ⟨fun v h9 => v = some (.int (f_13 x0 0 ((I1 59 1) - 1))) ∧ h9 = (N, am_ts T, I1, L, am_rs r), s_13 ⟨rfl, rfl⟩, ?_⟩
    intro v h9 hv
    obtain ⟨rfl, rfl⟩ := hv
    refine am_E.run [] 2000 (show (if (f_13 x0 0 ((I1 59 1) - 1)) = 0 then (True ∧ Q (some (.int (-1))) (N, am_ts T, I1, L, am_rs r)) else (if x0 < 0 ∨ 256 ≤ Int32.toNatClampNeg x0 then False else (True ∧ Q (some (.int (I1 60 (Int32.toNatClampNeg x0)))) (N, am_ts T, I1, L, am_rs r)))) from ?_)
    by_cases hc : (f_13 x0 0 ((I1 59 1) - 1)) = 0
    · rw [if_pos hc] at hw ⊢
      exact ⟨trivial, hK _ _ hw⟩
    · rw [if_neg hc] at hw ⊢
      refine am_ifn hw.1 ?_
      replace hw := hw.2
      exact ⟨trivial, hK _ _ hw⟩
def lw_160_44 : Nat → Int32 → Int32 → Int32 → am_I → (Int32 → Int32 → Prop) → Prop
  | 0, _, _, _, _, _ => False
  | n + 1, v2, v3, v4, I, E0 =>
    if (I 1 10) < v4 then
      E0 v3 v4
    else
      ¬ (((v2 * 9) + v4) < 0 ∨ 2304 ≤ Int32.toNatClampNeg ((v2 * 9) + v4)) ∧
      lw_160_44 n v2 (if v3 < (I 61 (Int32.toNatClampNeg ((v2 * 9) + v4))) then (I 61 (Int32.toNatClampNeg ((v2 * 9) + v4))) else v3) (v4 + 1) I E0
set_option maxRecDepth 100000 in
theorem sl_160_44 {S : am_S} {d : Nat} {Q : am_Q} {N : Nat} {T : Nat → Nat × Nat} {I : am_I} {L : am_J} {r : Nat → Nat → Option Nat} {E0 : Int32 → Int32 → Prop} : ∀ (n : Nat) {v2 : Int32} {v3 : Int32} {v4 : Int32}, lw_160_44 n v2 v3 v4 I E0 → (∀ (o3 : Int32) (o4 : Int32), E0 o3 o4 → am_E S 160 (d + 2) 0 0 76 [.ref 59, .ref 1, .int v2, .int o3, .int o4] [] (N, am_ts T, I, L, am_rs r) Q) → am_E S 160 (d + 2) 0 0 44 [.ref 59, .ref 1, .int v2, .int v3, .int v4] [] (N, am_ts T, I, L, am_rs r) Q
  | 0, _, _, _, hw, _ => hw.elim
  | n + 1, v2, v3, v4, hw, hE0 => by
    have ih := @sl_160_44 S d Q N T I L r E0 n
    unfold lw_160_44 at hw
    try dsimp only at hw
    refine am_E.run [44, 76] 2000 (show (if (I 1 10) < v4 then (am_E S 160 (d + 2) 0 0 76 [.ref 59, .ref 1, .int v2, .int v3, .int v4] [] (N, am_ts T, I, L, am_rs r) Q) else (if ((v2 * 9) + v4) < 0 ∨ 2304 ≤ Int32.toNatClampNeg ((v2 * 9) + v4) then False else (am_E S 160 (d + 2) 0 0 44 [.ref 59, .ref 1, .int v2, .int (if v3 < (I 61 (Int32.toNatClampNeg ((v2 * 9) + v4))) then (I 61 (Int32.toNatClampNeg ((v2 * 9) + v4))) else v3), .int (v4 + 1)] [] (N, am_ts T, I, L, am_rs r) Q))) from ?_)
    by_cases hc : (I 1 10) < v4
    · rw [if_pos hc] at hw ⊢
      exact hE0 _ _ hw
    · rw [if_neg hc] at hw ⊢
      refine am_ifn hw.1 ?_
      replace hw := hw.2
      exact ih hw hE0
def lw_160_22 : Nat → Int32 → am_I → (Int32 → am_I → Prop) → Prop
  | 0, _, _, _ => False
  | n + 1, v2, I, E0 =>
    if (f_153 I) < v2 then
      E0 v2 I
    else
      if (Int32.ofNat 256) ≤ v2 then
        E0 v2 I
      else
        ∃ n44, lw_160_44 n44 v2 0 0 I (fun o2 o3 =>
          if (I 59 3) ≤ o2 then
            lw_160_22 n (v2 + 1) I E0
          else
            lw_160_22 n (v2 + 1) (am_u (am_u I 59 3 o2) 59 2 v2) E0)
set_option maxRecDepth 100000 in
theorem sl_160_22 {S : am_S} {d : Nat} {Q : am_Q} {N : Nat} {T : Nat → Nat × Nat} {L : am_J} {r : Nat → Nat → Option Nat} {E0 : Int32 → am_I → Prop} : ∀ (n : Nat) {v2 : Int32} {I : am_I}, lw_160_22 n v2 I E0 → (∀ (o2 : Int32) (I1 : am_I), E0 o2 I1 → am_E S 160 (d + 2) 0 0 100 [.ref 59, .ref 1, .int o2, am_jk, am_jk] [] (N, am_ts T, I1, L, am_rs r) Q) → am_E S 160 (d + 2) 0 0 22 [.ref 59, .ref 1, .int v2, am_jk, am_jk] [] (N, am_ts T, I, L, am_rs r) Q
  | 0, _, _, hw, _ => hw.elim
  | n + 1, v2, I, hw, hE0 => by
    have ih := @sl_160_22 S d Q N T L r E0 n
    unfold lw_160_22 at hw
    try dsimp only at hw
    refine am_E.run [24] 2000 (show (am_E S 160 (d + 2) 0 0 24 [.ref 59, .ref 1, .int v2, am_jk, am_jk] [.ref 1, .int v2] (N, am_ts T, I, L, am_rs r) Q) from ?_)
    refine am_E.go ⟨fun v h9 => v = some (.int (f_153 I)) ∧ h9 = (N, am_ts T, I, L, am_rs r), s_153 ⟨rfl, rfl⟩, ?_⟩
    intro v h9 hv
    obtain ⟨rfl, rfl⟩ := hv
    refine am_E.run [44, 100] 2000 (show (if (f_153 I) < v2 then (am_E S 160 (d + 2) 0 0 100 [.ref 59, .ref 1, .int v2, am_jk, am_jk] [] (N, am_ts T, I, L, am_rs r) Q) else (if (Int32.ofNat 256) ≤ v2 then (am_E S 160 (d + 2) 0 0 100 [.ref 59, .ref 1, .int v2, am_jk, am_jk] [] (N, am_ts T, I, L, am_rs r) Q) else (am_E S 160 (d + 2) 0 0 44 [.ref 59, .ref 1, .int v2, .int 0, .int 0] [] (N, am_ts T, I, L, am_rs r) Q))) from ?_)
    by_cases hc : (f_153 I) < v2
    · rw [if_pos hc] at hw ⊢
      exact hE0 _ _ hw
    · rw [if_neg hc] at hw ⊢
      by_cases hc : (Int32.ofNat 256) ≤ v2
      · rw [if_pos hc] at hw ⊢
        exact hE0 _ _ hw
      · rw [if_neg hc] at hw ⊢
        obtain ⟨n44, hw⟩ := hw
        refine sl_160_44 n44 hw (fun o2 o3 hw => ?_)
        · try dsimp only at hw
          refine am_E.run [22] 2000 (show (if (I 59 3) ≤ o2 then (am_E S 160 (d + 2) 0 0 22 [.ref 59, .ref 1, .int (v2 + 1), .int o2, .int o3] [] (N, am_ts T, I, L, am_rs r) Q) else (am_E S 160 (d + 2) 0 0 22 [.ref 59, .ref 1, .int (v2 + 1), .int o2, .int o3] [] (N, am_ts T, (am_u (am_u I 59 3 o2) 59 2 v2), L, am_rs r) Q)) from ?_)
          by_cases hc : (I 59 3) ≤ o2
          · rw [if_pos hc] at hw ⊢
            exact am_E.junk (ih hw hE0) (am_le.cons (am_le.cons (am_le.cons (am_le.jk (am_le.jk am_le.nil)))))
          · rw [if_neg hc] at hw ⊢
            exact am_E.junk (ih hw hE0) (am_le.cons (am_le.cons (am_le.cons (am_le.jk (am_le.jk am_le.nil)))))
/-- KeyKeepers$Counting.choose(LKeyKeepers$Prison;)V -/
def w_160 (I : am_I) (K : am_I → Prop) : Prop :=
  w_161 I (fun I1 =>
    ∃ n22, lw_160_22 n22 1 (am_u (am_u I1 59 2 (-1)) 59 3 ((I1 59 1) + 1)) (fun o4 I5 =>
      K I5))
set_option maxRecDepth 100000 in
theorem s_160 {S : am_S} {d : Nat} {N : Nat} {T : Nat → Nat × Nat} {I : am_I} {L : am_J} {r : Nat → Nat → Option Nat} {Q : am_Q} {K : am_I → Prop} (hw : w_160 I K) (hK : ∀ (I1 : am_I), K I1 → Q (none) (N, am_ts T, I1, L, am_rs r)) : am_E S 160 (d + 2) 0 0 0 [.ref 59, .ref 1, am_jk, am_jk, am_jk] [] (N, am_ts T, I, L, am_rs r) Q := by
  unfold w_160 at hw
  try dsimp only at hw
  refine am_E.run [2] 2000 (show (am_E S 160 (d + 2) 0 0 2 [.ref 59, .ref 1, am_jk, am_jk, am_jk] [.ref 1, .ref 59] (N, am_ts T, I, L, am_rs r) Q) from ?_)
  refine am_E.go ⟨am_kv_I N T L r _, s_161 hw (fun I1 hk => ⟨I1, rfl, rfl, hk⟩), ?_⟩
  intro v h9 hv
  obtain ⟨I1, rfl, rfl, hw⟩ := hv
  try dsimp only at hw
  refine am_E.run [22] 2000 (show (am_E S 160 (d + 2) 0 0 22 [.ref 59, .ref 1, .int 1, am_jk, am_jk] [] (N, am_ts T, (am_u (am_u I1 59 2 (-1)) 59 3 ((I1 59 1) + 1)), L, am_rs r) Q) from ?_)
  obtain ⟨n22, hw⟩ := hw
  refine sl_160_22 n22 hw (fun o4 I5 hw => ?_)
  · try dsimp only at hw
    refine am_E.run [] 2000 (show (True ∧ Q (none) (N, am_ts T, I5, L, am_rs r)) from ?_)
    exact ⟨trivial, hK _ hw⟩
def lw_165n_6 : Nat → Int32 → Int32 → Int32 → am_I → (Int32 → Int32 → am_I → Prop) → Prop
  | 0, _, _, _, _, _ => False
  | n + 1, v3, v4, v5, I, E0 =>
    if (6 : Int32) ≤ v5 then
      E0 v4 v5 I
    else
      w_109n v3 v5 0 I (fun q1 I2 =>
        lw_165n_6 n v3 (v4 + q1) (v5 + 1) I2 E0)
set_option maxRecDepth 100000 in
theorem sl_165n_6 {S : am_S} {d : Nat} {Q : am_Q} {N : Nat} {T : Nat → Nat × Nat} {L : am_J} {r : Nat → Nat → Option Nat} {E0 : Int32 → Int32 → am_I → Prop} : ∀ (n : Nat) {v3 : Int32} {v4 : Int32} {v5 : Int32} {I : am_I}, lw_165n_6 n v3 v4 v5 I E0 → (∀ (o4 : Int32) (o5 : Int32) (I1 : am_I), E0 o4 o5 I1 → am_E S 165 (d + 3) 0 0 34 [.ref 23, .ref 1, .null, .int v3, .int o4, .int o5] [] (N, am_ts T, I1, L, am_rs r) Q) → am_E S 165 (d + 3) 0 0 6 [.ref 23, .ref 1, .null, .int v3, .int v4, .int v5] [] (N, am_ts T, I, L, am_rs r) Q
  | 0, _, _, _, _, hw, _ => hw.elim
  | n + 1, v3, v4, v5, I, hw, hE0 => by
    have ih := @sl_165n_6 S d Q N T L r E0 n
    unfold lw_165n_6 at hw
    try dsimp only at hw
    refine am_E.run [22, 34] 2000 (show (if (6 : Int32) ≤ v5 then (am_E S 165 (d + 3) 0 0 34 [.ref 23, .ref 1, .null, .int v3, .int v4, .int v5] [] (N, am_ts T, I, L, am_rs r) Q) else (am_E S 165 (d + 3) 0 0 22 [.ref 23, .ref 1, .null, .int v3, .int v4, .int v5] [.int 0, .int v5, .int v3, .null, .ref 1, .ref 23, .int v4] (N, am_ts T, I, L, am_rs r) Q)) from ?_)
    by_cases hc : (6 : Int32) ≤ v5
    · rw [if_pos hc] at hw ⊢
      exact hE0 _ _ _ hw
    · rw [if_neg hc] at hw ⊢
      refine am_E.go ⟨am_ki_I N T L r _, s_109n hw (fun q1 I2 hk => ⟨q1, I2, rfl, rfl, hk⟩), ?_⟩
      intro v h9 hv
      obtain ⟨q1, I2, rfl, rfl, hw⟩ := hv
      try dsimp only at hw
      refine am_E.run [6] 2000 (show (am_E S 165 (d + 3) 0 0 6 [.ref 23, .ref 1, .null, .int v3, .int (v4 + q1), .int (v5 + 1)] [] (N, am_ts T, I2, L, am_rs r) Q) from ?_)
      exact ih hw hE0
/-- KeyKeepers$Judge.allWatchesCost(LKeyKeepers$Prison;LKeyKeepers$Text;I)I -/
def w_165n (x2 : Int32) (I : am_I) (K : Int32 → am_I → Prop) : Prop :=
  ∃ n6, lw_165n_6 n6 x2 0 0 I (fun o3 o4 I5 =>
    K o3 I5)
set_option maxRecDepth 100000 in
theorem s_165n {S : am_S} {d : Nat} {N : Nat} {T : Nat → Nat × Nat} {I : am_I} {L : am_J} {r : Nat → Nat → Option Nat} {Q : am_Q} {x2 : Int32} {K : Int32 → am_I → Prop} (hw : w_165n x2 I K) (hK : ∀ (q : Int32) (I1 : am_I), K q I1 → Q (some (.int q)) (N, am_ts T, I1, L, am_rs r)) : am_E S 165 (d + 3) 0 0 0 [.ref 23, .ref 1, .null, .int x2, am_jk, am_jk] [] (N, am_ts T, I, L, am_rs r) Q := by
  unfold w_165n at hw
  try dsimp only at hw
  refine am_E.run [6] 2000 (show (am_E S 165 (d + 3) 0 0 6 [.ref 23, .ref 1, .null, .int x2, .int 0, .int 0] [] (N, am_ts T, I, L, am_rs r) Q) from ?_)
  obtain ⟨n6, hw⟩ := hw
  refine sl_165n_6 n6 hw (fun o3 o4 I5 hw => ?_)
  · try dsimp only at hw
    refine am_E.run [] 2000 (show (True ∧ Q (some (.int o3)) (N, am_ts T, I5, L, am_rs r)) from ?_)
    exact ⟨trivial, hK _ _ hw⟩
def lw_165s_6 : Nat → Nat → Int32 → Int32 → Int32 → (Nat → Nat × Nat) → (Nat → Nat → Option Nat) → am_I → (Int32 → Int32 → am_I → Prop) → Prop
  | 0, _, _, _, _, _, _, _, _ => False
  | n + 1, v2, v3, v4, v5, T, r, I, E0 =>
    if (6 : Int32) ≤ v5 then
      E0 v4 v5 I
    else
      w_109s v2 v3 v5 0 T r I (fun q1 I2 =>
        lw_165s_6 n v2 v3 (v4 + q1) (v5 + 1) T r I2 E0)
set_option maxRecDepth 100000 in
theorem sl_165s_6 {S : am_S} {d : Nat} {Q : am_Q} {N : Nat} {T : Nat → Nat × Nat} {L : am_J} {r : Nat → Nat → Option Nat} {E0 : Int32 → Int32 → am_I → Prop} : ∀ (n : Nat) {v2 : Nat} {v3 : Int32} {v4 : Int32} {v5 : Int32} {I : am_I}, lw_165s_6 n v2 v3 v4 v5 T r I E0 → (∀ (o4 : Int32) (o5 : Int32) (I1 : am_I), E0 o4 o5 I1 → am_E S 165 (d + 4) 0 0 34 [.ref 23, .ref 1, .ref v2, .int v3, .int o4, .int o5] [] (N, am_ts T, I1, L, am_rs r) Q) → am_E S 165 (d + 4) 0 0 6 [.ref 23, .ref 1, .ref v2, .int v3, .int v4, .int v5] [] (N, am_ts T, I, L, am_rs r) Q
  | 0, _, _, _, _, _, hw, _ => hw.elim
  | n + 1, v2, v3, v4, v5, I, hw, hE0 => by
    have ih := @sl_165s_6 S d Q N T L r E0 n
    unfold lw_165s_6 at hw
    try dsimp only at hw
    refine am_E.run [22, 34] 2000 (show (if (6 : Int32) ≤ v5 then (am_E S 165 (d + 4) 0 0 34 [.ref 23, .ref 1, .ref v2, .int v3, .int v4, .int v5] [] (N, am_ts T, I, L, am_rs r) Q) else (am_E S 165 (d + 4) 0 0 22 [.ref 23, .ref 1, .ref v2, .int v3, .int v4, .int v5] [.int 0, .int v5, .int v3, .ref v2, .ref 1, .ref 23, .int v4] (N, am_ts T, I, L, am_rs r) Q)) from ?_)
    by_cases hc : (6 : Int32) ≤ v5
    · rw [if_pos hc] at hw ⊢
      exact hE0 _ _ _ hw
    · rw [if_neg hc] at hw ⊢
      refine am_E.go ⟨am_ki_I N T L r _, s_109s hw (fun q1 I2 hk => ⟨q1, I2, rfl, rfl, hk⟩), ?_⟩
      intro v h9 hv
      obtain ⟨q1, I2, rfl, rfl, hw⟩ := hv
      try dsimp only at hw
      refine am_E.run [6] 2000 (show (am_E S 165 (d + 4) 0 0 6 [.ref 23, .ref 1, .ref v2, .int v3, .int (v4 + q1), .int (v5 + 1)] [] (N, am_ts T, I2, L, am_rs r) Q) from ?_)
      exact ih hw hE0
/-- KeyKeepers$Judge.allWatchesCost(LKeyKeepers$Prison;LKeyKeepers$Text;I)I -/
def w_165s (x1 : Nat) (x2 : Int32) (T : Nat → Nat × Nat) (r : Nat → Nat → Option Nat) (I : am_I) (K : Int32 → am_I → Prop) : Prop :=
  ∃ n6, lw_165s_6 n6 x1 x2 0 0 T r I (fun o3 o4 I5 =>
    K o3 I5)
set_option maxRecDepth 100000 in
theorem s_165s {S : am_S} {d : Nat} {N : Nat} {T : Nat → Nat × Nat} {I : am_I} {L : am_J} {r : Nat → Nat → Option Nat} {Q : am_Q} {x1 : Nat} {x2 : Int32} {K : Int32 → am_I → Prop} (hw : w_165s x1 x2 T r I K) (hK : ∀ (q : Int32) (I1 : am_I), K q I1 → Q (some (.int q)) (N, am_ts T, I1, L, am_rs r)) : am_E S 165 (d + 4) 0 0 0 [.ref 23, .ref 1, .ref x1, .int x2, am_jk, am_jk] [] (N, am_ts T, I, L, am_rs r) Q := by
  unfold w_165s at hw
  try dsimp only at hw
  refine am_E.run [6] 2000 (show (am_E S 165 (d + 4) 0 0 6 [.ref 23, .ref 1, .ref x1, .int x2, .int 0, .int 0] [] (N, am_ts T, I, L, am_rs r) Q) from ?_)
  obtain ⟨n6, hw⟩ := hw
  refine sl_165s_6 n6 hw (fun o3 o4 I5 hw => ?_)
  · try dsimp only at hw
    refine am_E.run [] 2000 (show (True ∧ Q (some (.int o3)) (N, am_ts T, I5, L, am_rs r)) from ?_)
    exact ⟨trivial, hK _ _ hw⟩
def lw_169_56 : Nat → Int32 → Int32 → Int32 → Int32 → (Nat → Nat × Nat) → (Nat → Nat → Option Nat) → am_I → (Int32 → Int32 → Int32 → am_I → Prop) → Prop
  | 0, _, _, _, _, _, _, _, _ => False
  | n + 1, v4, v5, v6, v7, T, r, I, E0 =>
    if v6 ≤ v7 then
      E0 v4 v5 v7 I
    else
      w_170 T r I (fun I2 =>
        w_171 10 I2 (fun q3 I4 =>
          if (I4 12 2) ≤ q3 then
            lw_169_56 n v4 v5 v6 (v7 + 1) T r I4 E0
          else
            w_86 64 T r I4 (fun q5 =>
              lw_169_56 n (f_101 v4 q5 I4) (v5 + 1) v6 (v7 + 1) T r I4 E0)))
set_option maxRecDepth 100000 in
theorem sl_169_56 {S : am_S} {d : Nat} {Q : am_Q} {N : Nat} {T : Nat → Nat × Nat} {L : am_J} {r : Nat → Nat → Option Nat} {E0 : Int32 → Int32 → Int32 → am_I → Prop} : ∀ (n : Nat) {v4 : Int32} {v5 : Int32} {v6 : Int32} {v7 : Int32} {I : am_I}, lw_169_56 n v4 v5 v6 v7 T r I E0 → (∀ (o4 : Int32) (o5 : Int32) (o7 : Int32) (I1 : am_I), E0 o4 o5 o7 I1 → am_E S 169 (d + 4) 0 0 108 [.ref 63, .ref 1, am_jk, am_jk, .int o4, .int o5, .int v6, .int o7] [] (N, am_ts T, I1, L, am_rs r) Q) → am_E S 169 (d + 4) 0 0 56 [.ref 63, .ref 1, am_jk, am_jk, .int v4, .int v5, .int v6, .int v7] [] (N, am_ts T, I, L, am_rs r) Q
  | 0, _, _, _, _, _, hw, _ => hw.elim
  | n + 1, v4, v5, v6, v7, I, hw, hE0 => by
    have ih := @sl_169_56 S d Q N T L r E0 n
    unfold lw_169_56 at hw
    try dsimp only at hw
    refine am_E.run [65, 108] 2000 (show (if v6 ≤ v7 then (am_E S 169 (d + 4) 0 0 108 [.ref 63, .ref 1, am_jk, am_jk, .int v4, .int v5, .int v6, .int v7] [] (N, am_ts T, I, L, am_rs r) Q) else (am_E S 169 (d + 4) 0 0 65 [.ref 63, .ref 1, am_jk, am_jk, .int v4, .int v5, .int v6, .int v7] [.ref 1, .ref 63] (N, am_ts T, I, L, am_rs r) Q)) from ?_)
    by_cases hc : v6 ≤ v7
    · rw [if_pos hc] at hw ⊢
      exact hE0 _ _ _ _ hw
    · rw [if_neg hc] at hw ⊢
      refine am_E.go ⟨am_kv_I N T L r _, s_170 hw (fun I2 hk => ⟨I2, rfl, rfl, hk⟩), ?_⟩
      intro v h9 hv
      obtain ⟨I2, rfl, rfl, hw⟩ := hv
      try dsimp only at hw
      refine am_E.run [71] 2000 (show (am_E S 169 (d + 4) 0 0 71 [.ref 63, .ref 1, am_jk, am_jk, .int v4, .int v5, .int v6, .int v7] [.int 10, .ref 63] (N, am_ts T, I2, L, am_rs r) Q) from ?_)
      refine am_E.go ⟨am_ki_I N T L r _, s_171 hw (fun q3 I4 hk => ⟨q3, I4, rfl, rfl, hk⟩), ?_⟩
      intro v h9 hv
      obtain ⟨q3, I4, rfl, rfl, hw⟩ := hv
      try dsimp only at hw
      refine am_E.run [56, 91] 2000 (show (if (I4 12 2) ≤ q3 then (am_E S 169 (d + 4) 0 0 56 [.ref 63, .ref 1, am_jk, am_jk, .int v4, .int v5, .int v6, .int (v7 + 1)] [] (N, am_ts T, I4, L, am_rs r) Q) else (am_E S 169 (d + 4) 0 0 91 [.ref 63, .ref 1, am_jk, am_jk, .int v4, .int v5, .int v6, .int v7] [.ref 64, .ref 1, .int v4, .ref 1] (N, am_ts T, I4, L, am_rs r) Q)) from ?_)
      by_cases hc : (I4 12 2) ≤ q3
      · rw [if_pos hc] at hw ⊢
        exact ih hw hE0
      · rw [if_neg hc] at hw ⊢
        refine am_E.go ⟨am_ki_ N T I4 L r _, s_86 hw (fun q5 hk => ⟨q5, rfl, rfl, hk⟩), ?_⟩
        intro v h9 hv
        obtain ⟨q5, rfl, rfl, hw⟩ := hv
        try dsimp only at hw
        show (am_E S 169 (d + 4) 0 0 94 [.ref 63, .ref 1, am_jk, am_jk, .int v4, .int v5, .int v6, .int v7] [.int q5, .int v4, .ref 1] (N, am_ts T, I4, L, am_rs r) Q)
        refine am_E.go ⟨fun v h9 => v = some (.int (f_101 v4 q5 I4)) ∧ h9 = (N, am_ts T, I4, L, am_rs r), s_101 ⟨rfl, rfl⟩, ?_⟩
        intro v h9 hv
        obtain ⟨rfl, rfl⟩ := hv
        refine am_E.run [56] 2000 (show (am_E S 169 (d + 4) 0 0 56 [.ref 63, .ref 1, am_jk, am_jk, .int (f_101 v4 q5 I4), .int (v5 + 1), .int v6, .int (v7 + 1)] [] (N, am_ts T, I4, L, am_rs r) Q) from ?_)
        exact ih hw hE0
/-- KeyKeepers$Nights.draw(LKeyKeepers$Prison;II)I -/
def w_169 (x1 : Int32) (x2 : Int32) (T : Nat → Nat × Nat) (r : Nat → Nat → Option Nat) (I : am_I) (K : Int32 → am_I → Prop) : Prop :=
  ((am_ts T 6).1 = 20 ∧ (am_ts T 64).1 = 20 ∧ ¬ (0 : Int32) < 0 ∧ ¬ (0 : Int32) < 0 ∧ ¬ (8 : Int32) < 0 ∧ (Int32.toNatClampNeg (0 : Int32)) + (Int32.toNatClampNeg (8 : Int32)) ≤ (am_ts T 6).2 ∧ (Int32.toNatClampNeg (0 : Int32)) + (Int32.toNatClampNeg (8 : Int32)) ≤ (am_ts T 64).2) ∧
  ∃ I1, I1 = (am_ci (am_u (am_u I 63 3 x1) 63 0 (I 1 10)) 6 64 (Int32.toNatClampNeg (0 : Int32)) (Int32.toNatClampNeg (0 : Int32)) (Int32.toNatClampNeg (8 : Int32))) ∧
  ∃ n56, lw_169_56 n56 (I1 1 18) 0 (if (9999 - (I1 12 0)) < x2 then (9999 - (I1 12 0)) else x2) 0 T r I1 (fun o6 o7 o8 I9 =>
    K o7 (am_u I9 63 1 (o6 - (I9 1 18))))
set_option maxRecDepth 100000 in
theorem s_169 {S : am_S} {d : Nat} {N : Nat} {T : Nat → Nat × Nat} {I : am_I} {L : am_J} {r : Nat → Nat → Option Nat} {Q : am_Q} {x1 : Int32} {x2 : Int32} {K : Int32 → am_I → Prop} (hw : w_169 x1 x2 T r I K) (hK : ∀ (q : Int32) (I1 : am_I), K q I1 → Q (some (.int q)) (N, am_ts T, I1, L, am_rs r)) : am_E S 169 (d + 4) 0 0 0 [.ref 63, .ref 1, .int x1, .int x2, am_jk, am_jk, am_jk, am_jk] [] (N, am_ts T, I, L, am_rs r) Q := by
  unfold w_169 at hw
  try dsimp only at hw
  refine am_E.run [28] 2000 (show (if (am_ts T 6).1 = 20 ∧ (am_ts T 64).1 = 20 ∧ ¬ (0 : Int32) < 0 ∧ ¬ (0 : Int32) < 0 ∧ ¬ (8 : Int32) < 0 ∧ (Int32.toNatClampNeg (0 : Int32)) + (Int32.toNatClampNeg (8 : Int32)) ≤ (am_ts T 6).2 ∧ (Int32.toNatClampNeg (0 : Int32)) + (Int32.toNatClampNeg (8 : Int32)) ≤ (am_ts T 64).2 ∧ 0 ≤ 8 then (am_E S 169 (d + 4) 0 0 28 [.ref 63, .ref 1, .int x1, .int x2, am_jk, am_jk, am_jk, am_jk] [] (N, am_ts T, (am_ci (am_u (am_u I 63 3 x1) 63 0 (I 1 10)) 6 64 (Int32.toNatClampNeg (0 : Int32)) (Int32.toNatClampNeg (0 : Int32)) (Int32.toNatClampNeg (8 : Int32))), L, am_rs r) Q) else False) from ?_)
  refine am_ifp ⟨hw.1.1, hw.1.2.1, hw.1.2.2.1, hw.1.2.2.2.1, hw.1.2.2.2.2.1, hw.1.2.2.2.2.2.1, hw.1.2.2.2.2.2.2, by decide⟩ ?_
  replace hw := hw.2
  obtain ⟨I1, hI, hw⟩ := hw
  rw [← hI]
  refine am_E.run [56] 2000 (show (am_E S 169 (d + 4) 0 0 56 [.ref 63, .ref 1, .int x1, .int x2, .int (I1 1 18), .int 0, .int (if (9999 - (I1 12 0)) < x2 then (9999 - (I1 12 0)) else x2), .int 0] [] (N, am_ts T, I1, L, am_rs r) Q) from ?_)
  obtain ⟨n56, hw⟩ := hw
  refine am_E.junk (lo := [.ref 63, .ref 1, am_jk, am_jk, .int (I1 1 18), .int 0, .int (if (9999 - (I1 12 0)) < x2 then (9999 - (I1 12 0)) else x2), .int 0]) ?_ (am_le.cons (am_le.cons (am_le.jk (am_le.jk (am_le.cons (am_le.cons (am_le.cons (am_le.cons am_le.nil))))))))
  refine sl_169_56 n56 hw (fun o6 o7 o8 I9 hw => ?_)
  · try dsimp only at hw
    refine am_E.run [] 2000 (show (True ∧ Q (some (.int o7)) (N, am_ts T, (am_u I9 63 1 (o6 - (I9 1 18))), L, am_rs r)) from ?_)
    exact ⟨trivial, hK _ _ hw⟩
/-- KeyKeepersModel.begin()V -/
def w_206 (I : am_I) (L : am_J) (K : am_I → am_J → Prop) : Prop :=
  w_207 (am_u (am_u (am_u I 66 15 0) 66 19 0) 66 18 (-1)) L (fun I1 L2 =>
    K I1 L2)
set_option maxRecDepth 100000 in
theorem s_206 {S : am_S} {d : Nat} {N : Nat} {T : Nat → Nat × Nat} {I : am_I} {L : am_J} {r : Nat → Nat → Option Nat} {Q : am_Q} {K : am_I → am_J → Prop} (hw : w_206 I L K) (hK : ∀ (I1 : am_I) (L1 : am_J), K I1 L1 → Q (none) (N, am_ts T, I1, L1, am_rs r)) : am_E S 206 (d + 2) 0 0 0 [.ref 66] [] (N, am_ts T, I, L, am_rs r) Q := by
  unfold w_206 at hw
  try dsimp only at hw
  refine am_E.run [16] 2000 (show (am_E S 206 (d + 2) 0 0 16 [.ref 66] [.ref 66] (N, am_ts T, (am_u (am_u (am_u I 66 15 0) 66 19 0) 66 18 (-1)), L, am_rs r) Q) from ?_)
  refine am_E.go ⟨am_kv_IL N T r _, s_207 hw (fun I1 L2 hk => ⟨I1, L2, rfl, rfl, hk⟩), ?_⟩
  intro v h9 hv
  obtain ⟨I1, L2, rfl, rfl, hw⟩ := hv
  try dsimp only at hw
  refine am_E.run [] 2000 (show (True ∧ Q (none) (N, am_ts T, I1, L2, am_rs r)) from ?_)
  exact ⟨trivial, hK _ _ hw⟩
def wb_218_99 (v1 : Int32) (s1 : Int32) (s2 : Int32) (s3 : Int32) (I : am_I) (L : am_J) (K : Int32 → am_I → am_J → Prop) : Prop :=
  w_221 s1 s2 s3 I L (fun I2 L3 =>
    if (I2 66 20) = 0 then
      K 3 I2 L3
    else
      if v1 < 6 then
        K 3 I2 L3
      else
        if (I2 66 19) = 0 then
          w_223 0 7 I2 L3 (fun q4 I5 L6 =>
            if v1 = 6 then
              ¬ (((I2 66 23) - 1) < 0 ∨ 400 ≤ Int32.toNatClampNeg ((I2 66 23) - 1)) ∧
              K 3 (am_u I5 78 (Int32.toNatClampNeg ((I2 66 23) - 1)) q4) L6
            else
              if (I5 66 19) = 0 then
                w_223 0 11 I5 L6 (fun q7 I8 L9 =>
                  ¬ (((I2 66 23) - 1) < 0 ∨ 400 ≤ Int32.toNatClampNeg ((I2 66 23) - 1)) ∧
                  K 3 (am_u I8 78 (Int32.toNatClampNeg ((I2 66 23) - 1)) ((16 * q4) + q7)) L9)
              else
                ¬ (((I2 66 23) - 1) < 0 ∨ 400 ≤ Int32.toNatClampNeg ((I2 66 23) - 1)) ∧
                K 3 (am_u I5 78 (Int32.toNatClampNeg ((I2 66 23) - 1)) q4) L6)
        else
          K 3 I2 L3)
set_option maxRecDepth 100000 in
theorem sb_218_99 {S : am_S} {d : Nat} {N : Nat} {T : Nat → Nat × Nat} {I : am_I} {L : am_J} {r : Nat → Nat → Option Nat} {Q : am_Q} {v1 : Int32} {s1 : Int32} {s2 : Int32} {s3 : Int32} {K : Int32 → am_I → am_J → Prop} (hw : wb_218_99 v1 s1 s2 s3 I L K) (hK : ∀ (q : Int32) (I1 : am_I) (L1 : am_J), K q I1 L1 → Q (some (.int q)) (N, am_ts T, I1, L1, am_rs r)) : am_E S 218 (d + 4) 0 0 99 [.ref 66, .int v1, am_jk, am_jk, am_jk] [.int s3, .int s2, .int s1, .ref 66] (N, am_ts T, I, L, am_rs r) Q := by
  unfold wb_218_99 at hw
  try dsimp only at hw
  show (am_E S 218 (d + 4) 0 0 99 [.ref 66, .int v1, am_jk, am_jk, am_jk] [.int s3, .int s2, .int s1, .ref 66] (N, am_ts T, I, L, am_rs r) Q)
  refine am_E.go ⟨am_kv_IL N T r _, s_221 hw (fun I2 L3 hk => ⟨I2, L3, rfl, rfl, hk⟩), ?_⟩
  intro v h9 hv
  obtain ⟨I2, L3, rfl, rfl, hw⟩ := hv
  try dsimp only at hw
  refine am_E.run [134] 2000 (show (if (I2 66 20) = 0 then (True ∧ Q (some (.int 3)) (N, am_ts T, I2, L3, am_rs r)) else (if v1 < 6 then (True ∧ Q (some (.int 3)) (N, am_ts T, I2, L3, am_rs r)) else (if (I2 66 19) = 0 then (am_E S 218 (d + 4) 0 0 134 [.ref 66, .int v1, am_jk, .int ((I2 66 23) - 1), am_jk] [.long 7, .long 0, .ref 66] (N, am_ts T, I2, L3, am_rs r) Q) else (True ∧ Q (some (.int 3)) (N, am_ts T, I2, L3, am_rs r))))) from ?_)
  by_cases hc : (I2 66 20) = 0
  · rw [if_pos hc] at hw ⊢
    exact ⟨trivial, hK _ _ _ hw⟩
  · rw [if_neg hc] at hw ⊢
    by_cases hc : v1 < 6
    · rw [if_pos hc] at hw ⊢
      exact ⟨trivial, hK _ _ _ hw⟩
    · rw [if_neg hc] at hw ⊢
      by_cases hc : (I2 66 19) = 0
      · rw [if_pos hc] at hw ⊢
        refine am_E.go ⟨am_ki_IL N T r _, s_223 hw (fun q4 I5 L6 hk => ⟨q4, I5, L6, rfl, rfl, hk⟩), ?_⟩
        intro v h9 hv
        obtain ⟨q4, I5, L6, rfl, rfl, hw⟩ := hv
        try dsimp only at hw
        refine am_E.run [172] 2000 (show (if v1 = 6 then (if ((I2 66 23) - 1) < 0 ∨ 400 ≤ Int32.toNatClampNeg ((I2 66 23) - 1) then False else (True ∧ Q (some (.int 3)) (N, am_ts T, (am_u I5 78 (Int32.toNatClampNeg ((I2 66 23) - 1)) q4), L6, am_rs r))) else (if (I5 66 19) = 0 then (am_E S 218 (d + 4) 0 0 172 [.ref 66, .int v1, am_jk, .int ((I2 66 23) - 1), .int q4] [.long 11, .long 0, .ref 66, .int (16 * q4), .int ((I2 66 23) - 1), .ref 78] (N, am_ts T, I5, L6, am_rs r) Q) else (if ((I2 66 23) - 1) < 0 ∨ 400 ≤ Int32.toNatClampNeg ((I2 66 23) - 1) then False else (True ∧ Q (some (.int 3)) (N, am_ts T, (am_u I5 78 (Int32.toNatClampNeg ((I2 66 23) - 1)) q4), L6, am_rs r))))) from ?_)
        by_cases hc : v1 = 6
        · rw [if_pos hc] at hw ⊢
          refine am_ifn hw.1 ?_
          replace hw := hw.2
          exact ⟨trivial, hK _ _ _ hw⟩
        · rw [if_neg hc] at hw ⊢
          by_cases hc : (I5 66 19) = 0
          · rw [if_pos hc] at hw ⊢
            refine am_E.go ⟨am_ki_IL N T r _, s_223 hw (fun q7 I8 L9 hk => ⟨q7, I8, L9, rfl, rfl, hk⟩), ?_⟩
            intro v h9 hv
            obtain ⟨q7, I8, L9, rfl, rfl, hw⟩ := hv
            try dsimp only at hw
            refine am_E.run [] 2000 (show (if ((I2 66 23) - 1) < 0 ∨ 400 ≤ Int32.toNatClampNeg ((I2 66 23) - 1) then False else (True ∧ Q (some (.int 3)) (N, am_ts T, (am_u I8 78 (Int32.toNatClampNeg ((I2 66 23) - 1)) ((16 * q4) + q7)), L9, am_rs r))) from ?_)
            refine am_ifn hw.1 ?_
            replace hw := hw.2
            exact ⟨trivial, hK _ _ _ hw⟩
          · rw [if_neg hc] at hw ⊢
            refine am_ifn hw.1 ?_
            replace hw := hw.2
            exact ⟨trivial, hK _ _ _ hw⟩
      · rw [if_neg hc] at hw ⊢
        exact ⟨trivial, hK _ _ _ hw⟩
def wb_218_86 (v1 : Int32) (v2 : Int32) (s1 : Int32) (s2 : Int32) (I : am_I) (L : am_J) (K : Int32 → am_I → am_J → Prop) : Prop :=
  if v2 = 0 then
    wb_218_99 v1 s1 s2 0 I L K
  else
    wb_218_99 v1 s1 s2 (Int64.toInt32 (L 66 17)) I L K
set_option maxRecDepth 100000 in
theorem sb_218_86 {S : am_S} {d : Nat} {N : Nat} {T : Nat → Nat × Nat} {I : am_I} {L : am_J} {r : Nat → Nat → Option Nat} {Q : am_Q} {v1 : Int32} {v2 : Int32} {s1 : Int32} {s2 : Int32} {K : Int32 → am_I → am_J → Prop} (hw : wb_218_86 v1 v2 s1 s2 I L K) (hK : ∀ (q : Int32) (I1 : am_I) (L1 : am_J), K q I1 L1 → Q (some (.int q)) (N, am_ts T, I1, L1, am_rs r)) : am_E S 218 (d + 4) 0 0 86 [.ref 66, .int v1, .int v2, am_jk, am_jk] [.int s2, .int s1, .ref 66] (N, am_ts T, I, L, am_rs r) Q := by
  unfold wb_218_86 at hw
  try dsimp only at hw
  refine am_E.run [99] 2000 (show (if v2 = 0 then (am_E S 218 (d + 4) 0 0 99 [.ref 66, .int v1, .int v2, am_jk, am_jk] [.int 0, .int s2, .int s1, .ref 66] (N, am_ts T, I, L, am_rs r) Q) else (am_E S 218 (d + 4) 0 0 99 [.ref 66, .int v1, .int v2, am_jk, am_jk] [.int (Int64.toInt32 (L 66 17)), .int s2, .int s1, .ref 66] (N, am_ts T, I, L, am_rs r) Q)) from ?_)
  by_cases hc : v2 = 0
  · rw [if_pos hc] at hw ⊢
    exact am_E.junk (sb_218_99 hw hK) (am_le.cons (am_le.cons (am_le.jk (am_le.cons (am_le.cons am_le.nil)))))
  · rw [if_neg hc] at hw ⊢
    exact am_E.junk (sb_218_99 hw hK) (am_le.cons (am_le.cons (am_le.jk (am_le.cons (am_le.cons am_le.nil)))))
def wb_218_76 (v1 : Int32) (v2 : Int32) (s1 : Int32) (I : am_I) (L : am_J) (K : Int32 → am_I → am_J → Prop) : Prop :=
  if v1 = (-1) then
    wb_218_86 v1 v2 s1 0 I L K
  else
    wb_218_86 v1 v2 s1 v1 I L K
set_option maxRecDepth 100000 in
theorem sb_218_76 {S : am_S} {d : Nat} {N : Nat} {T : Nat → Nat × Nat} {I : am_I} {L : am_J} {r : Nat → Nat → Option Nat} {Q : am_Q} {v1 : Int32} {v2 : Int32} {s1 : Int32} {K : Int32 → am_I → am_J → Prop} (hw : wb_218_76 v1 v2 s1 I L K) (hK : ∀ (q : Int32) (I1 : am_I) (L1 : am_J), K q I1 L1 → Q (some (.int q)) (N, am_ts T, I1, L1, am_rs r)) : am_E S 218 (d + 4) 0 0 76 [.ref 66, .int v1, .int v2, am_jk, am_jk] [.int s1, .ref 66] (N, am_ts T, I, L, am_rs r) Q := by
  unfold wb_218_76 at hw
  try dsimp only at hw
  refine am_E.run [86] 2000 (show (if v1 = (-1) then (am_E S 218 (d + 4) 0 0 86 [.ref 66, .int v1, .int v2, am_jk, am_jk] [.int 0, .int s1, .ref 66] (N, am_ts T, I, L, am_rs r) Q) else (am_E S 218 (d + 4) 0 0 86 [.ref 66, .int v1, .int v2, am_jk, am_jk] [.int v1, .int s1, .ref 66] (N, am_ts T, I, L, am_rs r) Q)) from ?_)
  by_cases hc : v1 = (-1)
  · rw [if_pos hc] at hw ⊢
    exact sb_218_86 hw hK
  · rw [if_neg hc] at hw ⊢
    exact sb_218_86 hw hK
def wb_218_60 (v1 : Int32) (s0 : Int32) (I : am_I) (L : am_J) (K : Int32 → am_I → am_J → Prop) : Prop :=
  if v1 = (-1) then
    if s0 = 0 then
      wb_218_76 v1 s0 0 I L K
    else
      wb_218_76 v1 s0 1 I L K
  else
    wb_218_76 v1 s0 1 I L K
set_option maxRecDepth 100000 in
theorem sb_218_60 {S : am_S} {d : Nat} {N : Nat} {T : Nat → Nat × Nat} {I : am_I} {L : am_J} {r : Nat → Nat → Option Nat} {Q : am_Q} {v1 : Int32} {s0 : Int32} {K : Int32 → am_I → am_J → Prop} (hw : wb_218_60 v1 s0 I L K) (hK : ∀ (q : Int32) (I1 : am_I) (L1 : am_J), K q I1 L1 → Q (some (.int q)) (N, am_ts T, I1, L1, am_rs r)) : am_E S 218 (d + 4) 0 0 60 [.ref 66, .int v1, am_jk, am_jk, am_jk] [.int s0] (N, am_ts T, I, L, am_rs r) Q := by
  unfold wb_218_60 at hw
  try dsimp only at hw
  refine am_E.run [76] 2000 (show (if v1 = (-1) then (if s0 = 0 then (am_E S 218 (d + 4) 0 0 76 [.ref 66, .int v1, .int s0, am_jk, am_jk] [.int 0, .ref 66] (N, am_ts T, I, L, am_rs r) Q) else (am_E S 218 (d + 4) 0 0 76 [.ref 66, .int v1, .int s0, am_jk, am_jk] [.int 1, .ref 66] (N, am_ts T, I, L, am_rs r) Q)) else (am_E S 218 (d + 4) 0 0 76 [.ref 66, .int v1, .int s0, am_jk, am_jk] [.int 1, .ref 66] (N, am_ts T, I, L, am_rs r) Q)) from ?_)
  by_cases hc : v1 = (-1)
  · rw [if_pos hc] at hw ⊢
    by_cases hc : s0 = 0
    · rw [if_pos hc] at hw ⊢
      exact sb_218_76 hw hK
    · rw [if_neg hc] at hw ⊢
      exact sb_218_76 hw hK
  · rw [if_neg hc] at hw ⊢
    exact sb_218_76 hw hK
def wb_218_35 (s0 : Int32) (I : am_I) (L : am_J) (K : Int32 → am_I → am_J → Prop) : Prop :=
  if (I 66 16) = 2 then
    if (0 : Int32) < (lg_cmp (L 66 17) 1000) then
      wb_218_60 s0 0 I L K
    else
      wb_218_60 s0 1 I L K
  else
    wb_218_60 s0 0 I L K
set_option maxRecDepth 100000 in
theorem sb_218_35 {S : am_S} {d : Nat} {N : Nat} {T : Nat → Nat × Nat} {I : am_I} {L : am_J} {r : Nat → Nat → Option Nat} {Q : am_Q} {s0 : Int32} {K : Int32 → am_I → am_J → Prop} (hw : wb_218_35 s0 I L K) (hK : ∀ (q : Int32) (I1 : am_I) (L1 : am_J), K q I1 L1 → Q (some (.int q)) (N, am_ts T, I1, L1, am_rs r)) : am_E S 218 (d + 4) 0 0 35 [.ref 66, am_jk, am_jk, am_jk, am_jk] [.int s0] (N, am_ts T, I, L, am_rs r) Q := by
  unfold wb_218_35 at hw
  try dsimp only at hw
  refine am_E.run [60] 2000 (show (if (I 66 16) = 2 then (if (0 : Int32) < (lg_cmp (L 66 17) 1000) then (am_E S 218 (d + 4) 0 0 60 [.ref 66, .int s0, am_jk, am_jk, am_jk] [.int 0] (N, am_ts T, I, L, am_rs r) Q) else (am_E S 218 (d + 4) 0 0 60 [.ref 66, .int s0, am_jk, am_jk, am_jk] [.int 1] (N, am_ts T, I, L, am_rs r) Q)) else (am_E S 218 (d + 4) 0 0 60 [.ref 66, .int s0, am_jk, am_jk, am_jk] [.int 0] (N, am_ts T, I, L, am_rs r) Q)) from ?_)
  by_cases hc : (I 66 16) = 2
  · rw [if_pos hc] at hw ⊢
    by_cases hc : (0 : Int32) < (lg_cmp (L 66 17) 1000)
    · rw [if_pos hc] at hw ⊢
      exact sb_218_60 hw hK
    · rw [if_neg hc] at hw ⊢
      exact sb_218_60 hw hK
  · rw [if_neg hc] at hw ⊢
    exact sb_218_60 hw hK
/-- KeyKeepersModel.readPart()I -/
def w_218 (I : am_I) (L : am_J) (K : Int32 → am_I → am_J → Prop) : Prop :=
  if (f_216 91 I L) = 0 then
    if (I 66 20) = 0 then
      w_220 I L (fun q1 =>
        if (I 66 16) = 2 then
          if (0 : Int32) < (lg_cmp (L 66 17) 1000) then
            wb_218_60 q1 0 I L K
          else
            wb_218_60 q1 1 I L K
        else
          wb_218_60 q1 0 I L K)
    else
      w_219 I L (fun q10 =>
        wb_218_35 q10 I L K)
  else
    w_217 32 I L (fun I11 L12 =>
      K 1 I11 L12)
set_option maxRecDepth 100000 in
theorem s_218 {S : am_S} {d : Nat} {N : Nat} {T : Nat → Nat × Nat} {I : am_I} {L : am_J} {r : Nat → Nat → Option Nat} {Q : am_Q} {K : Int32 → am_I → am_J → Prop} (hw : w_218 I L K) (hK : ∀ (q : Int32) (I1 : am_I) (L1 : am_J), K q I1 L1 → Q (some (.int q)) (N, am_ts T, I1, L1, am_rs r)) : am_E S 218 (d + 4) 0 0 0 [.ref 66, am_jk, am_jk, am_jk, am_jk] [] (N, am_ts T, I, L, am_rs r) Q := by
  unfold w_218 at hw
  try dsimp only at hw
  refine am_E.run [3] 2000 (show (am_E S 218 (d + 4) 0 0 3 [.ref 66, am_jk, am_jk, am_jk, am_jk] [.int 91, .ref 66] (N, am_ts T, I, L, am_rs r) Q) from ?_)
  refine am_E.go ⟨fun v h9 => v = some (.int (f_216 91 I L)) ∧ h9 = (N, am_ts T, I, L, am_rs r), s_216 ⟨rfl, rfl⟩, ?_⟩
  intro v h9 hv
  obtain ⟨rfl, rfl⟩ := hv
  refine am_E.run [12, 25, 32] 2000 (show (if (f_216 91 I L) = 0 then (if (I 66 20) = 0 then (am_E S 218 (d + 4) 0 0 32 [.ref 66, am_jk, am_jk, am_jk, am_jk] [.ref 66] (N, am_ts T, I, L, am_rs r) Q) else (am_E S 218 (d + 4) 0 0 25 [.ref 66, am_jk, am_jk, am_jk, am_jk] [.ref 66] (N, am_ts T, I, L, am_rs r) Q)) else (am_E S 218 (d + 4) 0 0 12 [.ref 66, am_jk, am_jk, am_jk, am_jk] [.int 32, .ref 66] (N, am_ts T, I, L, am_rs r) Q)) from ?_)
  by_cases hc : (f_216 91 I L) = 0
  · rw [if_pos hc] at hw ⊢
    by_cases hc : (I 66 20) = 0
    · rw [if_pos hc] at hw ⊢
      refine am_E.go ⟨am_ki_ N T I L r _, s_220 hw (fun q1 hk => ⟨q1, rfl, rfl, hk⟩), ?_⟩
      intro v h9 hv
      obtain ⟨q1, rfl, rfl, hw⟩ := hv
      try dsimp only at hw
      refine am_E.run [60] 2000 (show (if (I 66 16) = 2 then (if (0 : Int32) < (lg_cmp (L 66 17) 1000) then (am_E S 218 (d + 4) 0 0 60 [.ref 66, .int q1, am_jk, am_jk, am_jk] [.int 0] (N, am_ts T, I, L, am_rs r) Q) else (am_E S 218 (d + 4) 0 0 60 [.ref 66, .int q1, am_jk, am_jk, am_jk] [.int 1] (N, am_ts T, I, L, am_rs r) Q)) else (am_E S 218 (d + 4) 0 0 60 [.ref 66, .int q1, am_jk, am_jk, am_jk] [.int 0] (N, am_ts T, I, L, am_rs r) Q)) from ?_)
      by_cases hc : (I 66 16) = 2
      · rw [if_pos hc] at hw ⊢
        by_cases hc : (0 : Int32) < (lg_cmp (L 66 17) 1000)
        · rw [if_pos hc] at hw ⊢
          exact sb_218_60 hw hK
        · rw [if_neg hc] at hw ⊢
          exact sb_218_60 hw hK
      · rw [if_neg hc] at hw ⊢
        exact sb_218_60 hw hK
    · rw [if_neg hc] at hw ⊢
      refine am_E.go ⟨am_ki_ N T I L r _, s_219 hw (fun q10 hk => ⟨q10, rfl, rfl, hk⟩), ?_⟩
      intro v h9 hv
      obtain ⟨q10, rfl, rfl, hw⟩ := hv
      try dsimp only at hw
      refine am_E.run [35] 2000 (show (am_E S 218 (d + 4) 0 0 35 [.ref 66, am_jk, am_jk, am_jk, am_jk] [.int q10] (N, am_ts T, I, L, am_rs r) Q) from ?_)
      exact sb_218_35 hw hK
  · rw [if_neg hc] at hw ⊢
    refine am_E.go ⟨am_kv_IL N T r _, s_217 hw (fun I11 L12 hk => ⟨I11, L12, rfl, rfl, hk⟩), ?_⟩
    intro v h9 hv
    obtain ⟨I11, L12, rfl, rfl, hw⟩ := hv
    try dsimp only at hw
    refine am_E.run [] 2000 (show (True ∧ Q (some (.int 1)) (N, am_ts T, I11, L12, am_rs r)) from ?_)
    exact ⟨trivial, hK _ _ _ hw⟩
/-- KeyKeepersModel.isSo(I)Z -/
def w_238 (x0 : Int32) (I : am_I) (L : am_J) (K : Int32 → am_I → am_J → Prop) : Prop :=
  ¬ ((x0 + 5) < 0 ∨ 5510 ≤ Int32.toNatClampNeg (x0 + 5)) ∧
  ¬ ((x0 + 6) < 0 ∨ 5510 ≤ Int32.toNatClampNeg (x0 + 6)) ∧
  if (I 68 (Int32.toNatClampNeg (x0 + 6))) ≤ (I 68 (Int32.toNatClampNeg (x0 + 5))) then
    ¬ (x0 < 0 ∨ 5510 ≤ Int32.toNatClampNeg x0) ∧
    if (I 68 (Int32.toNatClampNeg x0)) = 3 then
      K 1 I L
    else
      ¬ ((x0 + 3) < 0 ∨ 5510 ≤ Int32.toNatClampNeg (x0 + 3)) ∧
      ¬ ((x0 + 4) < 0 ∨ 5510 ≤ Int32.toNatClampNeg (x0 + 4)) ∧
      w_239 (I 68 (Int32.toNatClampNeg (x0 + 3))) (I 68 (Int32.toNatClampNeg (x0 + 4))) I L (fun I1 L2 =>
        if (I1 66 38) = 0 then
          K 1 I1 (am_u L2 66 40 (L2 66 39))
        else
          K 0 I1 (am_u L2 66 40 (L2 66 39)))
  else
    ¬ ((x0 + 5) < 0 ∨ 5510 ≤ Int32.toNatClampNeg (x0 + 5)) ∧
    ¬ ((x0 + 6) < 0 ∨ 5510 ≤ Int32.toNatClampNeg (x0 + 6)) ∧
    w_239 (I 68 (Int32.toNatClampNeg (x0 + 5))) (I 68 (Int32.toNatClampNeg (x0 + 6))) I L (fun I3 L4 =>
      if (I3 66 38) = 0 then
        if (lg_cmp (L4 66 39) 0) = 0 then
          K 0 I3 L4
        else
          ¬ (x0 < 0 ∨ 5510 ≤ Int32.toNatClampNeg x0) ∧
          if (I3 68 (Int32.toNatClampNeg x0)) = 3 then
            K 1 I3 L4
          else
            ¬ ((x0 + 3) < 0 ∨ 5510 ≤ Int32.toNatClampNeg (x0 + 3)) ∧
            ¬ ((x0 + 4) < 0 ∨ 5510 ≤ Int32.toNatClampNeg (x0 + 4)) ∧
            w_239 (I3 68 (Int32.toNatClampNeg (x0 + 3))) (I3 68 (Int32.toNatClampNeg (x0 + 4))) I3 L4 (fun I5 L6 =>
              if (I5 66 38) = 0 then
                K 1 I5 (am_u L6 66 40 (L6 66 39))
              else
                K 0 I5 (am_u L6 66 40 (L6 66 39)))
      else
        K 0 I3 L4)
set_option maxRecDepth 100000 in
theorem s_238 {S : am_S} {d : Nat} {N : Nat} {T : Nat → Nat × Nat} {I : am_I} {L : am_J} {r : Nat → Nat → Option Nat} {Q : am_Q} {x0 : Int32} {K : Int32 → am_I → am_J → Prop} (hw : w_238 x0 I L K) (hK : ∀ (q : Int32) (I1 : am_I) (L1 : am_J), K q I1 L1 → Q (some (.int q)) (N, am_ts T, I1, L1, am_rs r)) : am_E S 238 (d + 3) 0 0 0 [.ref 66, .int x0] [] (N, am_ts T, I, L, am_rs r) Q := by
  unfold w_238 at hw
  try dsimp only at hw
  refine am_E.run [38, 86] 2000 (show (if (x0 + 5) < 0 ∨ 5510 ≤ Int32.toNatClampNeg (x0 + 5) then False else (if (x0 + 6) < 0 ∨ 5510 ≤ Int32.toNatClampNeg (x0 + 6) then False else (if (I 68 (Int32.toNatClampNeg (x0 + 6))) ≤ (I 68 (Int32.toNatClampNeg (x0 + 5))) then (if x0 < 0 ∨ 5510 ≤ Int32.toNatClampNeg x0 then False else (if (I 68 (Int32.toNatClampNeg x0)) = 3 then (((1 : Int32) = 0 ∨ (1 : Int32) = 1) ∧ Q (some (.int 1)) (N, am_ts T, I, L, am_rs r)) else (if (x0 + 3) < 0 ∨ 5510 ≤ Int32.toNatClampNeg (x0 + 3) then False else (if (x0 + 4) < 0 ∨ 5510 ≤ Int32.toNatClampNeg (x0 + 4) then False else (am_E S 238 (d + 3) 0 0 86 [.ref 66, .int x0] [.int (I 68 (Int32.toNatClampNeg (x0 + 4))), .int (I 68 (Int32.toNatClampNeg (x0 + 3))), .ref 66] (N, am_ts T, I, L, am_rs r) Q))))) else (if (x0 + 5) < 0 ∨ 5510 ≤ Int32.toNatClampNeg (x0 + 5) then False else (if (x0 + 6) < 0 ∨ 5510 ≤ Int32.toNatClampNeg (x0 + 6) then False else (am_E S 238 (d + 3) 0 0 38 [.ref 66, .int x0] [.int (I 68 (Int32.toNatClampNeg (x0 + 6))), .int (I 68 (Int32.toNatClampNeg (x0 + 5))), .ref 66] (N, am_ts T, I, L, am_rs r) Q)))))) from ?_)
  refine am_ifn hw.1 ?_
  replace hw := hw.2
  refine am_ifn hw.1 ?_
  replace hw := hw.2
  by_cases hc : (I 68 (Int32.toNatClampNeg (x0 + 6))) ≤ (I 68 (Int32.toNatClampNeg (x0 + 5)))
  · rw [if_pos hc] at hw ⊢
    refine am_ifn hw.1 ?_
    replace hw := hw.2
    by_cases hc : (I 68 (Int32.toNatClampNeg x0)) = 3
    · rw [if_pos hc] at hw ⊢
      exact ⟨Or.inr rfl, hK _ _ _ hw⟩
    · rw [if_neg hc] at hw ⊢
      refine am_ifn hw.1 ?_
      replace hw := hw.2
      refine am_ifn hw.1 ?_
      replace hw := hw.2
      refine am_E.go ⟨am_kv_IL N T r _, s_239 hw (fun I1 L2 hk => ⟨I1, L2, rfl, rfl, hk⟩), ?_⟩
      intro v h9 hv
      obtain ⟨I1, L2, rfl, rfl, hw⟩ := hv
      try dsimp only at hw
      refine am_E.run [] 2000 (show (if (I1 66 38) = 0 then (((1 : Int32) = 0 ∨ (1 : Int32) = 1) ∧ Q (some (.int 1)) (N, am_ts T, I1, (am_u L2 66 40 (L2 66 39)), am_rs r)) else (((0 : Int32) = 0 ∨ (0 : Int32) = 1) ∧ Q (some (.int 0)) (N, am_ts T, I1, (am_u L2 66 40 (L2 66 39)), am_rs r))) from ?_)
      by_cases hc : (I1 66 38) = 0
      · rw [if_pos hc] at hw ⊢
        exact ⟨Or.inr rfl, hK _ _ _ hw⟩
      · rw [if_neg hc] at hw ⊢
        exact ⟨Or.inl rfl, hK _ _ _ hw⟩
  · rw [if_neg hc] at hw ⊢
    refine am_ifn hw.1 ?_
    replace hw := hw.2
    refine am_ifn hw.1 ?_
    replace hw := hw.2
    refine am_E.go ⟨am_kv_IL N T r _, s_239 hw (fun I3 L4 hk => ⟨I3, L4, rfl, rfl, hk⟩), ?_⟩
    intro v h9 hv
    obtain ⟨I3, L4, rfl, rfl, hw⟩ := hv
    try dsimp only at hw
    refine am_E.run [86] 2000 (show (if (I3 66 38) = 0 then (if (lg_cmp (L4 66 39) 0) = 0 then (((0 : Int32) = 0 ∨ (0 : Int32) = 1) ∧ Q (some (.int 0)) (N, am_ts T, I3, L4, am_rs r)) else (if x0 < 0 ∨ 5510 ≤ Int32.toNatClampNeg x0 then False else (if (I3 68 (Int32.toNatClampNeg x0)) = 3 then (((1 : Int32) = 0 ∨ (1 : Int32) = 1) ∧ Q (some (.int 1)) (N, am_ts T, I3, L4, am_rs r)) else (if (x0 + 3) < 0 ∨ 5510 ≤ Int32.toNatClampNeg (x0 + 3) then False else (if (x0 + 4) < 0 ∨ 5510 ≤ Int32.toNatClampNeg (x0 + 4) then False else (am_E S 238 (d + 3) 0 0 86 [.ref 66, .int x0] [.int (I3 68 (Int32.toNatClampNeg (x0 + 4))), .int (I3 68 (Int32.toNatClampNeg (x0 + 3))), .ref 66] (N, am_ts T, I3, L4, am_rs r) Q)))))) else (((0 : Int32) = 0 ∨ (0 : Int32) = 1) ∧ Q (some (.int 0)) (N, am_ts T, I3, L4, am_rs r))) from ?_)
    by_cases hc : (I3 66 38) = 0
    · rw [if_pos hc] at hw ⊢
      by_cases hc : (lg_cmp (L4 66 39) 0) = 0
      · rw [if_pos hc] at hw ⊢
        exact ⟨Or.inl rfl, hK _ _ _ hw⟩
      · rw [if_neg hc] at hw ⊢
        refine am_ifn hw.1 ?_
        replace hw := hw.2
        by_cases hc : (I3 68 (Int32.toNatClampNeg x0)) = 3
        · rw [if_pos hc] at hw ⊢
          exact ⟨Or.inr rfl, hK _ _ _ hw⟩
        · rw [if_neg hc] at hw ⊢
          refine am_ifn hw.1 ?_
          replace hw := hw.2
          refine am_ifn hw.1 ?_
          replace hw := hw.2
          refine am_E.go ⟨am_kv_IL N T r _, s_239 hw (fun I5 L6 hk => ⟨I5, L6, rfl, rfl, hk⟩), ?_⟩
          intro v h9 hv
          obtain ⟨I5, L6, rfl, rfl, hw⟩ := hv
          try dsimp only at hw
          refine am_E.run [] 2000 (show (if (I5 66 38) = 0 then (((1 : Int32) = 0 ∨ (1 : Int32) = 1) ∧ Q (some (.int 1)) (N, am_ts T, I5, (am_u L6 66 40 (L6 66 39)), am_rs r)) else (((0 : Int32) = 0 ∨ (0 : Int32) = 1) ∧ Q (some (.int 0)) (N, am_ts T, I5, (am_u L6 66 40 (L6 66 39)), am_rs r))) from ?_)
          by_cases hc : (I5 66 38) = 0
          · rw [if_pos hc] at hw ⊢
            exact ⟨Or.inr rfl, hK _ _ _ hw⟩
          · rw [if_neg hc] at hw ⊢
            exact ⟨Or.inl rfl, hK _ _ _ hw⟩
    · rw [if_neg hc] at hw ⊢
      exact ⟨Or.inl rfl, hK _ _ _ hw⟩
/-- KeyKeepersModel.opens(II)I -/
def w_246 (x0 : Int32) (x1 : Int32) (I : am_I) (K : Int32 → am_I → Prop) : Prop :=
  if (f_192 x0 (am_u I 66 0 0)) = 0 then
    K (-1) (am_u I 66 0 0)
  else
    if (f_187 x1 (am_u I 66 0 0)) = 0 then
      K (-1) (am_u I 66 0 0)
    else
      w_247 x0 x1 (am_u I 66 0 0) (fun q1 =>
        if q1 = 0 then
          K 0 (am_u I 66 0 0)
        else
          K 1 (am_u I 66 0 0))
set_option maxRecDepth 100000 in
theorem s_246 {S : am_S} {d : Nat} {N : Nat} {T : Nat → Nat × Nat} {I : am_I} {L : am_J} {r : Nat → Nat → Option Nat} {Q : am_Q} {x0 : Int32} {x1 : Int32} {K : Int32 → am_I → Prop} (hw : w_246 x0 x1 I K) (hK : ∀ (q : Int32) (I1 : am_I), K q I1 → Q (some (.int q)) (N, am_ts T, I1, L, am_rs r)) : am_E S 246 (d + 3) 0 0 0 [.ref 66, .int x0, .int x1] [] (N, am_ts T, I, L, am_rs r) Q := by
  unfold w_246 at hw
  try dsimp only at hw
  refine am_E.run [7] 2000 (show (am_E S 246 (d + 3) 0 0 7 [.ref 66, .int x0, .int x1] [.int x0, .ref 66] (N, am_ts T, (am_u I 66 0 0), L, am_rs r) Q) from ?_)
  refine am_E.go ⟨fun v h9 => v = some (.int (f_192 x0 (am_u I 66 0 0))) ∧ h9 = (N, am_ts T, (am_u I 66 0 0), L, am_rs r), s_192 ⟨rfl, rfl⟩, ?_⟩
  intro v h9 hv
  obtain ⟨rfl, rfl⟩ := hv
  refine am_E.run [15] 2000 (show (if (f_192 x0 (am_u I 66 0 0)) = 0 then (True ∧ Q (some (.int (-1))) (N, am_ts T, (am_u I 66 0 0), L, am_rs r)) else (am_E S 246 (d + 3) 0 0 15 [.ref 66, .int x0, .int x1] [.int x1, .ref 66] (N, am_ts T, (am_u I 66 0 0), L, am_rs r) Q)) from ?_)
  by_cases hc : (f_192 x0 (am_u I 66 0 0)) = 0
  · rw [if_pos hc] at hw ⊢
    exact ⟨trivial, hK _ _ hw⟩
  · rw [if_neg hc] at hw ⊢
    refine am_E.go ⟨fun v h9 => v = some (.int (f_187 x1 (am_u I 66 0 0))) ∧ h9 = (N, am_ts T, (am_u I 66 0 0), L, am_rs r), s_187 ⟨rfl, rfl⟩, ?_⟩
    intro v h9 hv
    obtain ⟨rfl, rfl⟩ := hv
    refine am_E.run [28] 2000 (show (if (f_187 x1 (am_u I 66 0 0)) = 0 then (True ∧ Q (some (.int (-1))) (N, am_ts T, (am_u I 66 0 0), L, am_rs r)) else (am_E S 246 (d + 3) 0 0 28 [.ref 66, .int x0, .int x1] [.int x1, .int x0, .ref 66] (N, am_ts T, (am_u I 66 0 0), L, am_rs r) Q)) from ?_)
    by_cases hc : (f_187 x1 (am_u I 66 0 0)) = 0
    · rw [if_pos hc] at hw ⊢
      exact ⟨trivial, hK _ _ hw⟩
    · rw [if_neg hc] at hw ⊢
      refine am_E.go ⟨am_ki_ N T (am_u I 66 0 0) L r _, s_247 hw (fun q1 hk => ⟨q1, rfl, rfl, hk⟩), ?_⟩
      intro v h9 hv
      obtain ⟨q1, rfl, rfl, hw⟩ := hv
      try dsimp only at hw
      refine am_E.run [] 2000 (show (if q1 = 0 then (True ∧ Q (some (.int 0)) (N, am_ts T, (am_u I 66 0 0), L, am_rs r)) else (True ∧ Q (some (.int 1)) (N, am_ts T, (am_u I 66 0 0), L, am_rs r))) from ?_)
      by_cases hc : q1 = 0
      · rw [if_pos hc] at hw ⊢
        exact ⟨trivial, hK _ _ hw⟩
      · rw [if_neg hc] at hw ⊢
        exact ⟨trivial, hK _ _ hw⟩
