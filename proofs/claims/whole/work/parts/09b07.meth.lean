def lw_143_22 : Nat → Nat → Int32 → Int32 → Int32 → Int32 → Int32 → Int32 → (Nat → Nat × Nat) → (Nat → Nat → Option Nat) → am_I → (Int32 → Int32 → Int32 → Int32 → am_I → Prop) → Prop
  | 0, _, _, _, _, _, _, _, _, _, _, _ => False
  | n + 1, v0, v2, v3, v4, v5, v6, v7, T, r, I, E0 =>
    if (6 : Int32) ≤ v7 then
      E0 v4 v5 v6 v7 I
    else
      ((am_ts T v0).1 = 9) ∧
      w_142 v0 v5 v4 v6 T r I (fun I1 =>
        ((am_ts T v0).1 = 9) ∧
        (am_ts T v0).1 = 9 ∧ ∃ c2, (am_rs r v0 2) = some c2 ∧
        ((am_ts T c2).1 = 20) ∧
        ¬ (v7 < 0 ∨ (am_ts T c2).2 ≤ Int32.toNatClampNeg v7) ∧
        ((am_ts T v0).1 = 9) ∧
        w_141 v0 v4 (I1 v0 10) T r (am_u I1 c2 (Int32.toNatClampNeg v7) (I1 v0 10)) (fun q3 =>
          lw_143_22 n v0 v2 v3 q3 (v5 + (f_137 (I1 v0 10))) (I1 v0 10) (v7 + 1) T r (am_u I1 c2 (Int32.toNatClampNeg v7) (I1 v0 10)) E0))
set_option maxRecDepth 100000 in
theorem sl_143_22 {S : am_S} {d : Nat} {Q : am_Q} {N : Nat} {T : Nat → Nat × Nat} {L : am_J} {r : Nat → Nat → Option Nat} {E0 : Int32 → Int32 → Int32 → Int32 → am_I → Prop} : ∀ (n : Nat) {v0 : Nat} {v2 : Int32} {v3 : Int32} {v4 : Int32} {v5 : Int32} {v6 : Int32} {v7 : Int32} {I : am_I}, lw_143_22 n v0 v2 v3 v4 v5 v6 v7 T r I E0 → (∀ (o4 : Int32) (o5 : Int32) (o6 : Int32) (o7 : Int32) (I1 : am_I), E0 o4 o5 o6 o7 I1 → am_E S 143 (d + 1) 0 0 81 [.ref v0, .ref 1, .int v2, .int v3, .int o4, .int o5, .int o6, .int o7] [] (N, am_ts T, I1, L, am_rs r) Q) → am_E S 143 (d + 1) 0 0 22 [.ref v0, .ref 1, .int v2, .int v3, .int v4, .int v5, .int v6, .int v7] [] (N, am_ts T, I, L, am_rs r) Q
  | 0, _, _, _, _, _, _, _, _, hw, _ => hw.elim
  | n + 1, v0, v2, v3, v4, v5, v6, v7, I, hw, hE0 => by
    have ih := @sl_143_22 S d Q N T L r E0 n
    unfold lw_143_22 at hw
    try dsimp only at hw
    refine am_E.run [37, 81] 2000 (show (if (6 : Int32) ≤ v7 then (am_E S 143 (d + 1) 0 0 81 [.ref v0, .ref 1, .int v2, .int v3, .int v4, .int v5, .int v6, .int v7] [] (N, am_ts T, I, L, am_rs r) Q) else (am_E S 143 (d + 1) 0 0 37 [.ref v0, .ref 1, .int v2, .int v3, .int v4, .int v5, .int v6, .int v7] [.int v6, .int v4, .int v5, .ref 1, .ref v0] (N, am_ts T, I, L, am_rs r) Q)) from ?_)
    by_cases hc : (6 : Int32) ≤ v7
    · rw [if_pos hc] at hw ⊢
      exact hE0 _ _ _ _ _ hw
    · rw [if_neg hc] at hw ⊢
      refine am_E.go (show (if (List.length (List.take 4 [.int v6, .int v4, .int v5, .ref 1, .ref v0]) = 4 ∧ (am_ts T v0).1 = 9) then _ else False) from ?_)
      refine am_ifp ⟨rfl, hw.1⟩ ?_
      replace hw := hw.2
      refine ⟨am_kv_I N T L r _, s_142 hw (fun I1 hk => ⟨I1, rfl, rfl, hk⟩), ?_⟩
      intro v h9 hv
      obtain ⟨I1, rfl, rfl, hw⟩ := hv
      try dsimp only at hw
      refine am_E.run [50] 2000 (show (if (am_ts T v0).1 = 9 ∧ 0 < 4 then (if (am_ts T v0).1 = 9 ∧ 2 < 4 then (am_E S 143 (d + 1) 0 0 50 [.ref v0, .ref 1, .int v2, .int v3, .int v4, .int v5, .int (I1 v0 10), .int v7] [am_rv (am_rs r v0 2)] (N, am_ts T, I1, L, am_rs r) Q) else False) else False) from ?_)
      refine am_ifp ⟨hw.1, by decide⟩ ?_
      replace hw := hw.2
      refine am_ifp ⟨hw.1, by decide⟩ ?_
      replace hw := hw.2
      obtain ⟨c2, hx, hw⟩ := hw
      rw [hx]
      refine am_E.run [59] 2000 (show (if (am_ts T c2).1 = 20 then (if v7 < 0 ∨ (am_ts T c2).2 ≤ Int32.toNatClampNeg v7 then False else (am_E S 143 (d + 1) 0 0 59 [.ref v0, .ref 1, .int v2, .int v3, .int v4, .int v5, .int (I1 v0 10), .int v7] [.int (I1 v0 10), .int v5] (N, am_ts T, (am_u I1 c2 (Int32.toNatClampNeg v7) (I1 v0 10)), L, am_rs r) Q)) else False) from ?_)
      refine am_ifp hw.1 ?_
      replace hw := hw.2
      refine am_ifn hw.1 ?_
      replace hw := hw.2
      refine am_E.go ⟨fun v h9 => v = some (.int (f_137 (I1 v0 10))) ∧ h9 = (N, am_ts T, (am_u I1 c2 (Int32.toNatClampNeg v7) (I1 v0 10)), L, am_rs r), s_137 ⟨rfl, rfl⟩, ?_⟩
      intro v h9 hv
      obtain ⟨rfl, rfl⟩ := hv
      refine am_E.run [70] 2000 (show (am_E S 143 (d + 1) 0 0 70 [.ref v0, .ref 1, .int v2, .int v3, .int v4, .int (v5 + (f_137 (I1 v0 10))), .int (I1 v0 10), .int v7] [.int (I1 v0 10), .int v4, .ref v0] (N, am_ts T, (am_u I1 c2 (Int32.toNatClampNeg v7) (I1 v0 10)), L, am_rs r) Q) from ?_)
      refine am_E.go (show (if (List.length (List.take 2 [.int (I1 v0 10), .int v4, .ref v0]) = 2 ∧ (am_ts T v0).1 = 9) then _ else False) from ?_)
      refine am_ifp ⟨rfl, hw.1⟩ ?_
      replace hw := hw.2
      refine ⟨am_ki_ N T (am_u I1 c2 (Int32.toNatClampNeg v7) (I1 v0 10)) L r _, s_141 hw (fun q3 hk => ⟨q3, rfl, rfl, hk⟩), ?_⟩
      intro v h9 hv
      obtain ⟨q3, rfl, rfl, hw⟩ := hv
      try dsimp only at hw
      refine am_E.run [22] 2000 (show (am_E S 143 (d + 1) 0 0 22 [.ref v0, .ref 1, .int v2, .int v3, .int q3, .int (v5 + (f_137 (I1 v0 10))), .int (I1 v0 10), .int (v7 + 1)] [] (N, am_ts T, (am_u I1 c2 (Int32.toNatClampNeg v7) (I1 v0 10)), L, am_rs r) Q) from ?_)
      exact ih hw hE0
/-- KeyKeepers$Rota.findRow(LKeyKeepers$Prison;)V -/
def w_143 (a : Nat) (T : Nat → Nat × Nat) (r : Nat → Nat → Option Nat) (I : am_I) (K : am_I → Prop) : Prop :=
  ((am_ts T a).1 = 9) ∧
  ((am_ts T a).1 = 9) ∧
  ∃ n22, lw_143_22 n22 a (I a 0) (I a 1) 0 0 (-1) 0 T r I (fun o4 o5 o6 o7 I8 =>
    ((am_ts T a).1 = 9) ∧
    ((am_ts T a).1 = 9) ∧
    K (am_u (am_u I8 a 0 (I a 0)) a 1 (I a 1)))
set_option maxRecDepth 100000 in
theorem s_143 {S : am_S} {d : Nat} {N : Nat} {T : Nat → Nat × Nat} {I : am_I} {L : am_J} {r : Nat → Nat → Option Nat} {Q : am_Q} {a : Nat} {K : am_I → Prop} (hw : w_143 a T r I K) (hK : ∀ (I1 : am_I), K I1 → Q (none) (N, am_ts T, I1, L, am_rs r)) : am_E S 143 (d + 1) 0 0 0 [.ref a, .ref 1, am_jk, am_jk, am_jk, am_jk, am_jk, am_jk] [] (N, am_ts T, I, L, am_rs r) Q := by
  unfold w_143 at hw
  try dsimp only at hw
  refine am_E.run [22] 2000 (show (if (am_ts T a).1 = 9 ∧ 0 < 4 then (if (am_ts T a).1 = 9 ∧ 0 < 4 then (am_E S 143 (d + 1) 0 0 22 [.ref a, .ref 1, .int (I a 0), .int (I a 1), .int 0, .int 0, .int (-1), .int 0] [] (N, am_ts T, I, L, am_rs r) Q) else False) else False) from ?_)
  refine am_ifp ⟨hw.1, by decide⟩ ?_
  replace hw := hw.2
  refine am_ifp ⟨hw.1, by decide⟩ ?_
  replace hw := hw.2
  obtain ⟨n22, hw⟩ := hw
  refine sl_143_22 n22 hw (fun o4 o5 o6 o7 I8 hw => ?_)
  · try dsimp only at hw
    refine am_E.run [] 2000 (show (if (am_ts T a).1 = 9 then (if (am_ts T a).1 = 9 then (True ∧ Q (none) (N, am_ts T, (am_u (am_u I8 a 0 (I a 0)) a 1 (I a 1)), L, am_rs r)) else False) else False) from ?_)
    refine am_ifp hw.1 ?_
    replace hw := hw.2
    refine am_ifp hw.1 ?_
    replace hw := hw.2
    exact ⟨trivial, hK _ hw⟩
/-- KeyKeepers$Doors.trustEachOther(LKeyKeepers$Prison;II)Z -/
def w_149 (x1 : Int32) (x2 : Int32) (I : am_I) (K : Int32 → Prop) : Prop :=
  ¬ (x1 < 0 ∨ 8 ≤ Int32.toNatClampNeg x1) ∧
  if (f_20 (I 8 (Int32.toNatClampNeg x1)) x2) = 1 then
    ¬ (x2 < 0 ∨ 8 ≤ Int32.toNatClampNeg x2) ∧
    if (f_20 (I 8 (Int32.toNatClampNeg x2)) x1) = 1 then
      K 1
    else
      K 0
  else
    K 0
set_option maxRecDepth 100000 in
theorem s_149 {S : am_S} {d : Nat} {N : Nat} {T : Nat → Nat × Nat} {I : am_I} {L : am_J} {r : Nat → Nat → Option Nat} {Q : am_Q} {x1 : Int32} {x2 : Int32} {K : Int32 → Prop} (hw : w_149 x1 x2 I K) (hK : ∀ (q : Int32), K q → Q (some (.int q)) (N, am_ts T, I, L, am_rs r)) : am_E S 149 (d + 1) 0 0 0 [.ref 1, .int x1, .int x2] [] (N, am_ts T, I, L, am_rs r) Q := by
  unfold w_149 at hw
  try dsimp only at hw
  refine am_E.run [7] 2000 (show (if x1 < 0 ∨ 8 ≤ Int32.toNatClampNeg x1 then False else (am_E S 149 (d + 1) 0 0 7 [.ref 1, .int x1, .int x2] [.int x2, .int (I 8 (Int32.toNatClampNeg x1))] (N, am_ts T, I, L, am_rs r) Q)) from ?_)
  refine am_ifn hw.1 ?_
  replace hw := hw.2
  refine am_E.go ⟨fun v h9 => v = some (.int (f_20 (I 8 (Int32.toNatClampNeg x1)) x2)) ∧ h9 = (N, am_ts T, I, L, am_rs r), s_20 ⟨rfl, rfl⟩, ?_⟩
  intro v h9 hv
  obtain ⟨rfl, rfl⟩ := hv
  refine am_E.run [21] 2000 (show (if (f_20 (I 8 (Int32.toNatClampNeg x1)) x2) = 1 then (if x2 < 0 ∨ 8 ≤ Int32.toNatClampNeg x2 then False else (am_E S 149 (d + 1) 0 0 21 [.ref 1, .int x1, .int x2] [.int x1, .int (I 8 (Int32.toNatClampNeg x2))] (N, am_ts T, I, L, am_rs r) Q)) else (((0 : Int32) = 0 ∨ (0 : Int32) = 1) ∧ Q (some (.int 0)) (N, am_ts T, I, L, am_rs r))) from ?_)
  by_cases hc : (f_20 (I 8 (Int32.toNatClampNeg x1)) x2) = 1
  · rw [if_pos hc] at hw ⊢
    refine am_ifn hw.1 ?_
    replace hw := hw.2
    refine am_E.go ⟨fun v h9 => v = some (.int (f_20 (I 8 (Int32.toNatClampNeg x2)) x1)) ∧ h9 = (N, am_ts T, I, L, am_rs r), s_20 ⟨rfl, rfl⟩, ?_⟩
    intro v h9 hv
    obtain ⟨rfl, rfl⟩ := hv
    refine am_E.run [] 2000 (show (if (f_20 (I 8 (Int32.toNatClampNeg x2)) x1) = 1 then (((1 : Int32) = 0 ∨ (1 : Int32) = 1) ∧ Q (some (.int 1)) (N, am_ts T, I, L, am_rs r)) else (((0 : Int32) = 0 ∨ (0 : Int32) = 1) ∧ Q (some (.int 0)) (N, am_ts T, I, L, am_rs r))) from ?_)
    by_cases hc : (f_20 (I 8 (Int32.toNatClampNeg x2)) x1) = 1
    · rw [if_pos hc] at hw ⊢
      exact ⟨Or.inr rfl, hK _ hw⟩
    · rw [if_neg hc] at hw ⊢
      exact ⟨Or.inl rfl, hK _ hw⟩
  · rw [if_neg hc] at hw ⊢
    exact ⟨Or.inl rfl, hK _ hw⟩
def lw_151_5 : Nat → Int32 → Int32 → Int32 → am_I → (Int32 → Int32 → Prop) → Prop
  | 0, _, _, _, _, _ => False
  | n + 1, v2, v3, v4, I, E0 =>
    if v2 ≤ v4 then
      E0 v3 v4
    else
      ¬ (v4 < 0 ∨ 6 ≤ Int32.toNatClampNeg v4) ∧
      lw_151_5 n v2 (v3 ||| (1 <<< ((I 56 (Int32.toNatClampNeg v4)) &&& 31))) (v4 + 1) I E0
set_option maxRecDepth 100000 in
theorem sl_151_5 {S : am_S} {d : Nat} {Q : am_Q} {N : Nat} {T : Nat → Nat × Nat} {I : am_I} {L : am_J} {r : Nat → Nat → Option Nat} {E0 : Int32 → Int32 → Prop} : ∀ (n : Nat) {v2 : Int32} {v3 : Int32} {v4 : Int32}, lw_151_5 n v2 v3 v4 I E0 → (∀ (o3 : Int32) (o4 : Int32), E0 o3 o4 → am_E S 151 (d + 2) 0 0 29 [.ref 55, .ref 1, .int v2, .int o3, .int o4, am_jk, am_jk] [] (N, am_ts T, I, L, am_rs r) Q) → am_E S 151 (d + 2) 0 0 5 [.ref 55, .ref 1, .int v2, .int v3, .int v4, am_jk, am_jk] [] (N, am_ts T, I, L, am_rs r) Q
  | 0, _, _, _, hw, _ => hw.elim
  | n + 1, v2, v3, v4, hw, hE0 => by
    have ih := @sl_151_5 S d Q N T I L r E0 n
    unfold lw_151_5 at hw
    try dsimp only at hw
    refine am_E.run [5, 29] 2000 (show (if v2 ≤ v4 then (am_E S 151 (d + 2) 0 0 29 [.ref 55, .ref 1, .int v2, .int v3, .int v4, am_jk, am_jk] [] (N, am_ts T, I, L, am_rs r) Q) else (if v4 < 0 ∨ 6 ≤ Int32.toNatClampNeg v4 then False else (am_E S 151 (d + 2) 0 0 5 [.ref 55, .ref 1, .int v2, .int (v3 ||| (1 <<< ((I 56 (Int32.toNatClampNeg v4)) &&& 31))), .int (v4 + 1), am_jk, am_jk] [] (N, am_ts T, I, L, am_rs r) Q))) from ?_)
    by_cases hc : v2 ≤ v4
    · rw [if_pos hc] at hw ⊢
      exact hE0 _ _ hw
    · rw [if_neg hc] at hw ⊢
      refine am_ifn hw.1 ?_
      replace hw := hw.2
      exact ih hw hE0
/-- KeyKeepers$Doors.isParted(LKeyKeepers$Prison;I)Z -/
def w_151 (x1 : Int32) (I : am_I) (K : Int32 → Prop) : Prop :=
  ∃ n5, lw_151_5 n5 x1 0 0 I (fun o1 o2 =>
    if (f_111 o1) = 2 then
      w_149 (f_133 o1) (f_133 (f_21 o1 (f_133 o1) 0)) I (fun q3 =>
        if q3 = 0 then
          K 1
        else
          K 0)
    else
      if (f_111 o1) ≤ 2 then
        K 0
      else
        K 1)
set_option maxRecDepth 100000 in
theorem s_151 {S : am_S} {d : Nat} {N : Nat} {T : Nat → Nat × Nat} {I : am_I} {L : am_J} {r : Nat → Nat → Option Nat} {Q : am_Q} {x1 : Int32} {K : Int32 → Prop} (hw : w_151 x1 I K) (hK : ∀ (q : Int32), K q → Q (some (.int q)) (N, am_ts T, I, L, am_rs r)) : am_E S 151 (d + 2) 0 0 0 [.ref 55, .ref 1, .int x1, am_jk, am_jk, am_jk, am_jk] [] (N, am_ts T, I, L, am_rs r) Q := by
  unfold w_151 at hw
  try dsimp only at hw
  refine am_E.run [5] 2000 (show (am_E S 151 (d + 2) 0 0 5 [.ref 55, .ref 1, .int x1, .int 0, .int 0, am_jk, am_jk] [] (N, am_ts T, I, L, am_rs r) Q) from ?_)
  obtain ⟨n5, hw⟩ := hw
  refine sl_151_5 n5 hw (fun o1 o2 hw => ?_)
  · try dsimp only at hw
    refine am_E.run [30] 2000 (show (am_E S 151 (d + 2) 0 0 30 [.ref 55, .ref 1, .int x1, .int o1, .int o2, am_jk, am_jk] [.int o1] (N, am_ts T, I, L, am_rs r) Q) from ?_)
    refine am_E.go ⟨fun v h9 => v = some (.int (f_111 o1)) ∧ h9 = (N, am_ts T, I, L, am_rs r), s_111 ⟨rfl, rfl⟩, ?_⟩
    intro v h9 hv
    obtain ⟨rfl, rfl⟩ := hv
    refine am_E.run [54] 2000 (show (if (f_111 o1) = 2 then (am_E S 151 (d + 2) 0 0 54 [.ref 55, .ref 1, .int x1, .int o1, .int (f_111 o1), am_jk, am_jk] [.int o1] (N, am_ts T, I, L, am_rs r) Q) else (if (f_111 o1) ≤ 2 then (((0 : Int32) = 0 ∨ (0 : Int32) = 1) ∧ Q (some (.int 0)) (N, am_ts T, I, L, am_rs r)) else (((1 : Int32) = 0 ∨ (1 : Int32) = 1) ∧ Q (some (.int 1)) (N, am_ts T, I, L, am_rs r)))) from ?_)
    by_cases hc : (f_111 o1) = 2
    · rw [if_pos hc] at hw ⊢
      refine am_E.go ⟨fun v h9 => v = some (.int (f_133 o1)) ∧ h9 = (N, am_ts T, I, L, am_rs r), s_133 ⟨rfl, rfl⟩, ?_⟩
      intro v h9 hv
      obtain ⟨rfl, rfl⟩ := hv
      refine am_E.run [63] 2000 (show (am_E S 151 (d + 2) 0 0 63 [.ref 55, .ref 1, .int x1, .int o1, .int (f_111 o1), .int (f_133 o1), am_jk] [.int 0, .int (f_133 o1), .int o1] (N, am_ts T, I, L, am_rs r) Q) from ?_)
      refine am_E.go ⟨fun v h9 => v = some (.int (f_21 o1 (f_133 o1) 0)) ∧ h9 = (N, am_ts T, I, L, am_rs r), s_21 ⟨rfl, rfl⟩, ?_⟩
      intro v h9 hv
      obtain ⟨rfl, rfl⟩ := hv
      show (am_E S 151 (d + 2) 0 0 66 [.ref 55, .ref 1, .int x1, .int o1, .int (f_111 o1), .int (f_133 o1), am_jk] [.int (f_21 o1 (f_133 o1) 0)] (N, am_ts T, I, L, am_rs r) Q)
      refine am_E.go ⟨fun v h9 => v = some (.int (f_133 (f_21 o1 (f_133 o1) 0))) ∧ h9 = (N, am_ts T, I, L, am_rs r), s_133 ⟨rfl, rfl⟩, ?_⟩
      intro v h9 hv
      obtain ⟨rfl, rfl⟩ := hv
      refine am_E.run [76] 2000 (show (am_E S 151 (d + 2) 0 0 76 [.ref 55, .ref 1, .int x1, .int o1, .int (f_111 o1), .int (f_133 o1), .int (f_133 (f_21 o1 (f_133 o1) 0))] [.int (f_133 (f_21 o1 (f_133 o1) 0)), .int (f_133 o1), .ref 1] (N, am_ts T, I, L, am_rs r) Q) from ?_)
      refine am_E.go ⟨am_ki_ N T I L r _, s_149 hw (fun q3 hk => ⟨q3, rfl, rfl, hk⟩), ?_⟩
      intro v h9 hv
      obtain ⟨q3, rfl, rfl, hw⟩ := hv
      try dsimp only at hw
      refine am_E.run [] 2000 (show (if q3 = 0 then (((1 : Int32) = 0 ∨ (1 : Int32) = 1) ∧ Q (some (.int 1)) (N, am_ts T, I, L, am_rs r)) else (((0 : Int32) = 0 ∨ (0 : Int32) = 1) ∧ Q (some (.int 0)) (N, am_ts T, I, L, am_rs r))) from ?_)
      by_cases hc : q3 = 0
      · rw [if_pos hc] at hw ⊢
        exact ⟨Or.inr rfl, hK _ hw⟩
      · rw [if_neg hc] at hw ⊢
        exact ⟨Or.inl rfl, hK _ hw⟩
    · rw [if_neg hc] at hw ⊢
      by_cases hc : (f_111 o1) ≤ 2
      · rw [if_pos hc] at hw ⊢
        exact ⟨Or.inl rfl, hK _ hw⟩
      · rw [if_neg hc] at hw ⊢
        exact ⟨Or.inr rfl, hK _ hw⟩
/-- KeyKeepers$Prison.everybody()I -/
def f_153 (I : am_I) : Int32 :=
  ((1 <<< ((I 1 10) &&& 31)) - 1)
set_option maxRecDepth 100000 in
theorem s_153 {S : am_S} {d : Nat} {N : Nat} {T : Nat → Nat × Nat} {I : am_I} {L : am_J} {r : Nat → Nat → Option Nat} {Q : am_Q} (hq : Q (some (.int (f_153 I))) (N, am_ts T, I, L, am_rs r)) : am_E S 153 (d + 0) 0 0 0 [.ref 1] [] (N, am_ts T, I, L, am_rs r) Q := by
  unfold f_153 at hq
  try dsimp only at hq
  refine am_E.run [] 2000 (show (True ∧ Q (some (.int ((1 <<< ((I 1 10) &&& 31)) - 1))) (N, am_ts T, I, L, am_rs r)) from ?_)
  exact ⟨trivial, hq⟩
/-- KeyKeepers$Prison.addCount(II)I -/
def w_154 (x0 : Int32) (x1 : Int32) (I : am_I) (K : Int32 → am_I → Prop) : Prop :=
  if (I 1 13) < 8 then
    ¬ ((I 1 13) < 0 ∨ 8 ≤ Int32.toNatClampNeg (I 1 13)) ∧
    ¬ ((I 1 13) < 0 ∨ 8 ≤ Int32.toNatClampNeg (I 1 13)) ∧
    K ((I 1 13) + 1) (am_u (am_u (am_u I 9 (Int32.toNatClampNeg (I 1 13)) x0) 10 (Int32.toNatClampNeg (I 1 13)) x1) 1 13 ((I 1 13) + 1))
  else
    K (-1) I
set_option maxRecDepth 100000 in
theorem s_154 {S : am_S} {d : Nat} {N : Nat} {T : Nat → Nat × Nat} {I : am_I} {L : am_J} {r : Nat → Nat → Option Nat} {Q : am_Q} {x0 : Int32} {x1 : Int32} {K : Int32 → am_I → Prop} (hw : w_154 x0 x1 I K) (hK : ∀ (q : Int32) (I1 : am_I), K q I1 → Q (some (.int q)) (N, am_ts T, I1, L, am_rs r)) : am_E S 154 (d + 0) 0 0 0 [.ref 1, .int x0, .int x1] [] (N, am_ts T, I, L, am_rs r) Q := by
  unfold w_154 at hw
  try dsimp only at hw
  refine am_E.run [] 2000 (show (if (I 1 13) < 8 then (if (I 1 13) < 0 ∨ 8 ≤ Int32.toNatClampNeg (I 1 13) then False else (if (I 1 13) < 0 ∨ 8 ≤ Int32.toNatClampNeg (I 1 13) then False else (True ∧ Q (some (.int ((I 1 13) + 1))) (N, am_ts T, (am_u (am_u (am_u I 9 (Int32.toNatClampNeg (I 1 13)) x0) 10 (Int32.toNatClampNeg (I 1 13)) x1) 1 13 ((I 1 13) + 1)), L, am_rs r)))) else (True ∧ Q (some (.int (-1))) (N, am_ts T, I, L, am_rs r))) from ?_)
  by_cases hc : (I 1 13) < 8
  · rw [if_pos hc] at hw ⊢
    refine am_ifn hw.1 ?_
    replace hw := hw.2
    refine am_ifn hw.1 ?_
    replace hw := hw.2
    exact ⟨trivial, hK _ _ hw⟩
  · rw [if_neg hc] at hw ⊢
    exact ⟨trivial, hK _ _ hw⟩
/-- KeyKeepers.forget()I -/
def w_155 (I : am_I) (K : Int32 → am_I → Prop) : Prop :=
  K (I 1 13) (am_u I 1 13 0)
set_option maxRecDepth 100000 in
theorem s_155 {S : am_S} {d : Nat} {N : Nat} {T : Nat → Nat × Nat} {I : am_I} {L : am_J} {r : Nat → Nat → Option Nat} {Q : am_Q} {K : Int32 → am_I → Prop} (hw : w_155 I K) (hK : ∀ (q : Int32) (I1 : am_I), K q I1 → Q (some (.int q)) (N, am_ts T, I1, L, am_rs r)) : am_E S 155 (d + 0) 0 0 0 [.ref 0, am_jk] [] (N, am_ts T, I, L, am_rs r) Q := by
  unfold w_155 at hw
  try dsimp only at hw
  refine am_E.run [] 2000 (show (True ∧ Q (some (.int (I 1 13))) (N, am_ts T, (am_u I 1 13 0), L, am_rs r)) from ?_)
  exact ⟨trivial, hK _ _ hw⟩
def lw_158_2 : Nat → Int32 → Int32 → am_I → (Int32 → Prop) → (Int32 → Prop) → Prop
  | 0, _, _, _, _, _ => False
  | n + 1, v1, v2, I, E0, R =>
    if (I 1 13) ≤ v2 then
      E0 v2
    else
      ¬ (v2 < 0 ∨ 8 ≤ Int32.toNatClampNeg v2) ∧
      ¬ (v2 < 0 ∨ 8 ≤ Int32.toNatClampNeg v2) ∧
      if (f_111 ((I 9 (Int32.toNatClampNeg v2)) &&& (v1 ^^^ (-1)))) = (I 10 (Int32.toNatClampNeg v2)) then
        lw_158_2 n v1 (v2 + 1) I E0 R
      else
        R 0
set_option maxRecDepth 100000 in
theorem sl_158_2 {S : am_S} {d : Nat} {Q : am_Q} {N : Nat} {T : Nat → Nat × Nat} {I : am_I} {L : am_J} {r : Nat → Nat → Option Nat} {E0 : Int32 → Prop} {R : Int32 → Prop} : ∀ (n : Nat) {v1 : Int32} {v2 : Int32}, lw_158_2 n v1 v2 I E0 R → (∀ (o2 : Int32), E0 o2 → am_E S 158 (d + 1) 0 0 40 [.ref 1, .int v1, .int o2] [] (N, am_ts T, I, L, am_rs r) Q) → (∀ (q : Int32), R q → Q (some (.int q)) (N, am_ts T, I, L, am_rs r)) → am_E S 158 (d + 1) 0 0 2 [.ref 1, .int v1, .int v2] [] (N, am_ts T, I, L, am_rs r) Q
  | 0, _, _, hw, _, _ => hw.elim
  | n + 1, v1, v2, hw, hE0, hR => by
    have ih := @sl_158_2 S d Q N T I L r E0 R n
    unfold lw_158_2 at hw
    try dsimp only at hw
    refine am_E.run [20, 40] 2000 (show (if (I 1 13) ≤ v2 then (am_E S 158 (d + 1) 0 0 40 [.ref 1, .int v1, .int v2] [] (N, am_ts T, I, L, am_rs r) Q) else (if v2 < 0 ∨ 8 ≤ Int32.toNatClampNeg v2 then False else (am_E S 158 (d + 1) 0 0 20 [.ref 1, .int v1, .int v2] [.int ((I 9 (Int32.toNatClampNeg v2)) &&& (v1 ^^^ (-1)))] (N, am_ts T, I, L, am_rs r) Q))) from ?_)
    by_cases hc : (I 1 13) ≤ v2
    · rw [if_pos hc] at hw ⊢
      exact hE0 _ hw
    · rw [if_neg hc] at hw ⊢
      refine am_ifn hw.1 ?_
      replace hw := hw.2
      refine am_E.go ⟨fun v h9 => v = some (.int (f_111 ((I 9 (Int32.toNatClampNeg v2)) &&& (v1 ^^^ (-1))))) ∧ h9 = (N, am_ts T, I, L, am_rs r), s_111 ⟨rfl, rfl⟩, ?_⟩
      intro v h9 hv
      obtain ⟨rfl, rfl⟩ := hv
      refine am_E.run [2] 2000 (show (if v2 < 0 ∨ 8 ≤ Int32.toNatClampNeg v2 then False else (if (f_111 ((I 9 (Int32.toNatClampNeg v2)) &&& (v1 ^^^ (-1)))) = (I 10 (Int32.toNatClampNeg v2)) then (am_E S 158 (d + 1) 0 0 2 [.ref 1, .int v1, .int (v2 + 1)] [] (N, am_ts T, I, L, am_rs r) Q) else (((0 : Int32) = 0 ∨ (0 : Int32) = 1) ∧ Q (some (.int 0)) (N, am_ts T, I, L, am_rs r)))) from ?_)
      refine am_ifn hw.1 ?_
      replace hw := hw.2
      by_cases hc : (f_111 ((I 9 (Int32.toNatClampNeg v2)) &&& (v1 ^^^ (-1)))) = (I 10 (Int32.toNatClampNeg v2))
      · rw [if_pos hc] at hw ⊢
        exact ih hw hE0 hR
      · rw [if_neg hc] at hw ⊢
        exact ⟨Or.inl rfl, hR _ hw⟩
/-- KeyKeepers$Counting.fits(LKeyKeepers$Prison;I)Z -/
def w_158 (x1 : Int32) (I : am_I) (K : Int32 → Prop) : Prop :=
  ∃ n2, lw_158_2 n2 x1 0 I (fun o1 =>
    K 1) K
set_option maxRecDepth 100000 in
theorem s_158 {S : am_S} {d : Nat} {N : Nat} {T : Nat → Nat × Nat} {I : am_I} {L : am_J} {r : Nat → Nat → Option Nat} {Q : am_Q} {x1 : Int32} {K : Int32 → Prop} (hw : w_158 x1 I K) (hK : ∀ (q : Int32), K q → Q (some (.int q)) (N, am_ts T, I, L, am_rs r)) : am_E S 158 (d + 1) 0 0 0 [.ref 1, .int x1, am_jk] [] (N, am_ts T, I, L, am_rs r) Q := by
  unfold w_158 at hw
  try dsimp only at hw
  refine am_E.run [2] 2000 (show (am_E S 158 (d + 1) 0 0 2 [.ref 1, .int x1, .int 0] [] (N, am_ts T, I, L, am_rs r) Q) from ?_)
  obtain ⟨n2, hw⟩ := hw
  refine sl_158_2 n2 hw (fun o1 hw => ?_) hK
  · try dsimp only at hw
    refine am_E.run [] 2000 (show (((1 : Int32) = 0 ∨ (1 : Int32) = 1) ∧ Q (some (.int 1)) (N, am_ts T, I, L, am_rs r)) from ?_)
    exact ⟨Or.inr rfl, hK _ hw⟩
def lw_162_3 : Nat → Int32 → Int32 → Int32 → am_I → (Int32 → am_I → Prop) → Prop
  | 0, _, _, _, _, _ => False
  | n + 1, v1, v2, v4, I, E0 =>
    if v4 < 0 then
      E0 v4 I
    else
      ¬ ((v1 + v4) < 0 ∨ 2304 ≤ Int32.toNatClampNeg (v1 + v4)) ∧
      ¬ ((v2 + v4) < 0 ∨ 2304 ≤ Int32.toNatClampNeg (v2 + v4)) ∧
      ¬ ((v1 + v4) < 0 ∨ 2304 ≤ Int32.toNatClampNeg (v1 + v4)) ∧
      if v4 ≤ 0 then
        ¬ ((v2 + v4) < 0 ∨ 2304 ≤ Int32.toNatClampNeg (v2 + v4)) ∧
        lw_162_3 n v1 v2 (v4 + (-1)) (am_u (am_u I 61 (Int32.toNatClampNeg (v1 + v4)) ((I 61 (Int32.toNatClampNeg (v1 + v4))) + (I 61 (Int32.toNatClampNeg (v2 + v4))))) 61 (Int32.toNatClampNeg (v2 + v4)) (I 61 (Int32.toNatClampNeg (v1 + v4)))) E0
      else
        ¬ (((v2 + v4) - 1) < 0 ∨ 2304 ≤ Int32.toNatClampNeg ((v2 + v4) - 1)) ∧
        ¬ ((v2 + v4) < 0 ∨ 2304 ≤ Int32.toNatClampNeg (v2 + v4)) ∧
        lw_162_3 n v1 v2 (v4 + (-1)) (am_u (am_u I 61 (Int32.toNatClampNeg (v1 + v4)) ((I 61 (Int32.toNatClampNeg (v1 + v4))) + (I 61 (Int32.toNatClampNeg (v2 + v4))))) 61 (Int32.toNatClampNeg (v2 + v4)) ((I 61 (Int32.toNatClampNeg (v1 + v4))) + ((am_u I 61 (Int32.toNatClampNeg (v1 + v4)) ((I 61 (Int32.toNatClampNeg (v1 + v4))) + (I 61 (Int32.toNatClampNeg (v2 + v4))))) 61 (Int32.toNatClampNeg ((v2 + v4) - 1))))) E0
set_option maxRecDepth 100000 in
theorem sl_162_3 {S : am_S} {d : Nat} {Q : am_Q} {N : Nat} {T : Nat → Nat × Nat} {L : am_J} {r : Nat → Nat → Option Nat} {E0 : Int32 → am_I → Prop} : ∀ (n : Nat) {v1 : Int32} {v2 : Int32} {v4 : Int32} {I : am_I}, lw_162_3 n v1 v2 v4 I E0 → (∀ (o4 : Int32) (I1 : am_I), E0 o4 I1 → am_E S 162 (d + 0) 0 0 79 [.ref 59, .int v1, .int v2, am_jk, .int o4, am_jk] [] (N, am_ts T, I1, L, am_rs r) Q) → am_E S 162 (d + 0) 0 0 3 [.ref 59, .int v1, .int v2, am_jk, .int v4, am_jk] [] (N, am_ts T, I, L, am_rs r) Q
  | 0, _, _, _, _, hw, _ => hw.elim
  | n + 1, v1, v2, v4, I, hw, hE0 => by
    have ih := @sl_162_3 S d Q N T L r E0 n
    unfold lw_162_3 at hw
    try dsimp only at hw
    refine am_E.run [3, 79] 2000 (show (if v4 < 0 then (am_E S 162 (d + 0) 0 0 79 [.ref 59, .int v1, .int v2, am_jk, .int v4, am_jk] [] (N, am_ts T, I, L, am_rs r) Q) else (if (v1 + v4) < 0 ∨ 2304 ≤ Int32.toNatClampNeg (v1 + v4) then False else (if (v2 + v4) < 0 ∨ 2304 ≤ Int32.toNatClampNeg (v2 + v4) then False else (if (v1 + v4) < 0 ∨ 2304 ≤ Int32.toNatClampNeg (v1 + v4) then False else (if v4 ≤ 0 then (if (v2 + v4) < 0 ∨ 2304 ≤ Int32.toNatClampNeg (v2 + v4) then False else (am_E S 162 (d + 0) 0 0 3 [.ref 59, .int v1, .int v2, am_jk, .int (v4 + (-1)), .int (I 61 (Int32.toNatClampNeg (v1 + v4)))] [] (N, am_ts T, (am_u (am_u I 61 (Int32.toNatClampNeg (v1 + v4)) ((I 61 (Int32.toNatClampNeg (v1 + v4))) + (I 61 (Int32.toNatClampNeg (v2 + v4))))) 61 (Int32.toNatClampNeg (v2 + v4)) (I 61 (Int32.toNatClampNeg (v1 + v4)))), L, am_rs r) Q)) else (if ((v2 + v4) - 1) < 0 ∨ 2304 ≤ Int32.toNatClampNeg ((v2 + v4) - 1) then False else (if (v2 + v4) < 0 ∨ 2304 ≤ Int32.toNatClampNeg (v2 + v4) then False else (am_E S 162 (d + 0) 0 0 3 [.ref 59, .int v1, .int v2, am_jk, .int (v4 + (-1)), .int (I 61 (Int32.toNatClampNeg (v1 + v4)))] [] (N, am_ts T, (am_u (am_u I 61 (Int32.toNatClampNeg (v1 + v4)) ((I 61 (Int32.toNatClampNeg (v1 + v4))) + (I 61 (Int32.toNatClampNeg (v2 + v4))))) 61 (Int32.toNatClampNeg (v2 + v4)) ((I 61 (Int32.toNatClampNeg (v1 + v4))) + ((am_u I 61 (Int32.toNatClampNeg (v1 + v4)) ((I 61 (Int32.toNatClampNeg (v1 + v4))) + (I 61 (Int32.toNatClampNeg (v2 + v4))))) 61 (Int32.toNatClampNeg ((v2 + v4) - 1))))), L, am_rs r) Q)))))))) from ?_)
    by_cases hc : v4 < 0
    · rw [if_pos hc] at hw ⊢
      exact hE0 _ _ hw
    · rw [if_neg hc] at hw ⊢
      refine am_ifn hw.1 ?_
      replace hw := hw.2
      refine am_ifn hw.1 ?_
      replace hw := hw.2
      refine am_ifn hw.1 ?_
      replace hw := hw.2
      by_cases hc : v4 ≤ 0
      · rw [if_pos hc] at hw ⊢
        refine am_ifn hw.1 ?_
        replace hw := hw.2
        exact am_E.junk (ih hw hE0) (am_le.cons (am_le.cons (am_le.cons (am_le.cons (am_le.cons (am_le.jk am_le.nil))))))
      · rw [if_neg hc] at hw ⊢
        refine am_ifn hw.1 ?_
        replace hw := hw.2
        refine am_ifn hw.1 ?_
        replace hw := hw.2
        exact am_E.junk (ih hw hE0) (am_le.cons (am_le.cons (am_le.cons (am_le.cons (am_le.cons (am_le.jk am_le.nil))))))
/-- KeyKeepers$Counting.spreadOne(III)V -/
def w_162 (x0 : Int32) (x1 : Int32) (x2 : Int32) (I : am_I) (K : am_I → Prop) : Prop :=
  ∃ n3, lw_162_3 n3 x0 x1 x2 I (fun o1 I2 =>
    K I2)
set_option maxRecDepth 100000 in
theorem s_162 {S : am_S} {d : Nat} {N : Nat} {T : Nat → Nat × Nat} {I : am_I} {L : am_J} {r : Nat → Nat → Option Nat} {Q : am_Q} {x0 : Int32} {x1 : Int32} {x2 : Int32} {K : am_I → Prop} (hw : w_162 x0 x1 x2 I K) (hK : ∀ (I1 : am_I), K I1 → Q (none) (N, am_ts T, I1, L, am_rs r)) : am_E S 162 (d + 0) 0 0 0 [.ref 59, .int x0, .int x1, .int x2, am_jk, am_jk] [] (N, am_ts T, I, L, am_rs r) Q := by
  unfold w_162 at hw
  try dsimp only at hw
  refine am_E.run [3] 2000 (show (am_E S 162 (d + 0) 0 0 3 [.ref 59, .int x0, .int x1, .int x2, .int x2, am_jk] [] (N, am_ts T, I, L, am_rs r) Q) from ?_)
  obtain ⟨n3, hw⟩ := hw
  refine am_E.junk (lo := [.ref 59, .int x0, .int x1, am_jk, .int x2, am_jk]) ?_ (am_le.cons (am_le.cons (am_le.cons (am_le.jk (am_le.cons (am_le.cons am_le.nil))))))
  refine sl_162_3 n3 hw (fun o1 I2 hw => ?_)
  · try dsimp only at hw
    refine am_E.run [] 2000 (show (True ∧ Q (none) (N, am_ts T, I2, L, am_rs r)) from ?_)
    exact ⟨trivial, hK _ hw⟩
def lw_167_34 : Nat → Int32 → Int32 → Int32 → Int32 → am_I → (Int32 → am_I → Prop) → Prop
  | 0, _, _, _, _, _, _ => False
  | n + 1, v2, v3, v4, v5, I, E0 =>
    if (10 : Int32) ≤ v5 then
      E0 v5 I
    else
      ¬ (v5 < 0 ∨ 10 ≤ Int32.toNatClampNeg v5) ∧
      lw_167_34 n v2 v3 v4 (v5 + 1) (am_u I 62 (Int32.toNatClampNeg v5) 0) E0
set_option maxRecDepth 100000 in
theorem sl_167_34 {S : am_S} {d : Nat} {Q : am_Q} {N : Nat} {T : Nat → Nat × Nat} {L : am_J} {r : Nat → Nat → Option Nat} {E0 : Int32 → am_I → Prop} : ∀ (n : Nat) {v2 : Int32} {v3 : Int32} {v4 : Int32} {v5 : Int32} {I : am_I}, lw_167_34 n v2 v3 v4 v5 I E0 → (∀ (o5 : Int32) (I1 : am_I), E0 o5 I1 → am_E S 167 (d + 1) 0 0 55 [.ref 59, .ref 1, .int v2, .int v3, .int v4, .int o5, am_jk, am_jk] [] (N, am_ts T, I1, L, am_rs r) Q) → am_E S 167 (d + 1) 0 0 34 [.ref 59, .ref 1, .int v2, .int v3, .int v4, .int v5, am_jk, am_jk] [] (N, am_ts T, I, L, am_rs r) Q
  | 0, _, _, _, _, _, hw, _ => hw.elim
  | n + 1, v2, v3, v4, v5, I, hw, hE0 => by
    have ih := @sl_167_34 S d Q N T L r E0 n
    unfold lw_167_34 at hw
    try dsimp only at hw
    refine am_E.run [34, 55] 2000 (show (if (10 : Int32) ≤ v5 then (am_E S 167 (d + 1) 0 0 55 [.ref 59, .ref 1, .int v2, .int v3, .int v4, .int v5, am_jk, am_jk] [] (N, am_ts T, I, L, am_rs r) Q) else (if v5 < 0 ∨ 10 ≤ Int32.toNatClampNeg v5 then False else (am_E S 167 (d + 1) 0 0 34 [.ref 59, .ref 1, .int v2, .int v3, .int v4, .int (v5 + 1), am_jk, am_jk] [] (N, am_ts T, (am_u I 62 (Int32.toNatClampNeg v5) 0), L, am_rs r) Q))) from ?_)
    by_cases hc : (10 : Int32) ≤ v5
    · rw [if_pos hc] at hw ⊢
      exact hE0 _ _ hw
    · rw [if_neg hc] at hw ⊢
      refine am_ifn hw.1 ?_
      replace hw := hw.2
      exact ih hw hE0
def lw_167_58 : Nat → Int32 → Int32 → Int32 → Int32 → am_I → (Int32 → am_I → Prop) → Prop
  | 0, _, _, _, _, _, _ => False
  | n + 1, v2, v3, v4, v5, I, E0 =>
    if (I 1 10) ≤ v5 then
      E0 v5 I
    else
      if v3 = 0 then
        ¬ (v5 < 0 ∨ 8 ≤ Int32.toNatClampNeg v5) ∧
        ¬ ((I 6 (Int32.toNatClampNeg v5)) < 0 ∨ 10 ≤ Int32.toNatClampNeg (I 6 (Int32.toNatClampNeg v5))) ∧
        ¬ ((I 6 (Int32.toNatClampNeg v5)) < 0 ∨ 10 ≤ Int32.toNatClampNeg (I 6 (Int32.toNatClampNeg v5))) ∧
        lw_167_58 n v2 v3 v4 (v5 + 1) (am_u I 62 (Int32.toNatClampNeg (I 6 (Int32.toNatClampNeg v5))) ((I 62 (Int32.toNatClampNeg (I 6 (Int32.toNatClampNeg v5)))) + 1)) E0
      else
        if (f_20 (I 1 9) v5) = v4 then
          ¬ (v5 < 0 ∨ 8 ≤ Int32.toNatClampNeg v5) ∧
          ¬ ((I 6 (Int32.toNatClampNeg v5)) < 0 ∨ 10 ≤ Int32.toNatClampNeg (I 6 (Int32.toNatClampNeg v5))) ∧
          ¬ ((I 6 (Int32.toNatClampNeg v5)) < 0 ∨ 10 ≤ Int32.toNatClampNeg (I 6 (Int32.toNatClampNeg v5))) ∧
          lw_167_58 n v2 v3 v4 (v5 + 1) (am_u I 62 (Int32.toNatClampNeg (I 6 (Int32.toNatClampNeg v5))) ((I 62 (Int32.toNatClampNeg (I 6 (Int32.toNatClampNeg v5)))) + 1)) E0
        else
          lw_167_58 n v2 v3 v4 (v5 + 1) I E0
set_option maxRecDepth 100000 in
theorem sl_167_58 {S : am_S} {d : Nat} {Q : am_Q} {N : Nat} {T : Nat → Nat × Nat} {L : am_J} {r : Nat → Nat → Option Nat} {E0 : Int32 → am_I → Prop} : ∀ (n : Nat) {v2 : Int32} {v3 : Int32} {v4 : Int32} {v5 : Int32} {I : am_I}, lw_167_58 n v2 v3 v4 v5 I E0 → (∀ (o5 : Int32) (I1 : am_I), E0 o5 I1 → am_E S 167 (d + 1) 0 0 107 [.ref 59, .ref 1, .int v2, .int v3, .int v4, .int o5, am_jk, am_jk] [] (N, am_ts T, I1, L, am_rs r) Q) → am_E S 167 (d + 1) 0 0 58 [.ref 59, .ref 1, .int v2, .int v3, .int v4, .int v5, am_jk, am_jk] [] (N, am_ts T, I, L, am_rs r) Q
  | 0, _, _, _, _, _, hw, _ => hw.elim
  | n + 1, v2, v3, v4, v5, I, hw, hE0 => by
    have ih := @sl_167_58 S d Q N T L r E0 n
    unfold lw_167_58 at hw
    try dsimp only at hw
    refine am_E.run [58, 77, 107] 2000 (show (if (I 1 10) ≤ v5 then (am_E S 167 (d + 1) 0 0 107 [.ref 59, .ref 1, .int v2, .int v3, .int v4, .int v5, am_jk, am_jk] [] (N, am_ts T, I, L, am_rs r) Q) else (if v3 = 0 then (if v5 < 0 ∨ 8 ≤ Int32.toNatClampNeg v5 then False else (if (I 6 (Int32.toNatClampNeg v5)) < 0 ∨ 10 ≤ Int32.toNatClampNeg (I 6 (Int32.toNatClampNeg v5)) then False else (if (I 6 (Int32.toNatClampNeg v5)) < 0 ∨ 10 ≤ Int32.toNatClampNeg (I 6 (Int32.toNatClampNeg v5)) then False else (am_E S 167 (d + 1) 0 0 58 [.ref 59, .ref 1, .int v2, .int v3, .int v4, .int (v5 + 1), am_jk, am_jk] [] (N, am_ts T, (am_u I 62 (Int32.toNatClampNeg (I 6 (Int32.toNatClampNeg v5))) ((I 62 (Int32.toNatClampNeg (I 6 (Int32.toNatClampNeg v5)))) + 1)), L, am_rs r) Q)))) else (am_E S 167 (d + 1) 0 0 77 [.ref 59, .ref 1, .int v2, .int v3, .int v4, .int v5, am_jk, am_jk] [.int v5, .int (I 1 9)] (N, am_ts T, I, L, am_rs r) Q))) from ?_)
    by_cases hc : (I 1 10) ≤ v5
    · rw [if_pos hc] at hw ⊢
      exact hE0 _ _ hw
    · rw [if_neg hc] at hw ⊢
      by_cases hc : v3 = 0
      · rw [if_pos hc] at hw ⊢
        refine am_ifn hw.1 ?_
        replace hw := hw.2
        refine am_ifn hw.1 ?_
        replace hw := hw.2
        refine am_ifn hw.1 ?_
        replace hw := hw.2
        exact ih hw hE0
      · rw [if_neg hc] at hw ⊢
        refine am_E.go ⟨fun v h9 => v = some (.int (f_20 (I 1 9) v5)) ∧ h9 = (N, am_ts T, I, L, am_rs r), s_20 ⟨rfl, rfl⟩, ?_⟩
        intro v h9 hv
        obtain ⟨rfl, rfl⟩ := hv
        refine am_E.run [58] 2000 (show (if (f_20 (I 1 9) v5) = v4 then (if v5 < 0 ∨ 8 ≤ Int32.toNatClampNeg v5 then False else (if (I 6 (Int32.toNatClampNeg v5)) < 0 ∨ 10 ≤ Int32.toNatClampNeg (I 6 (Int32.toNatClampNeg v5)) then False else (if (I 6 (Int32.toNatClampNeg v5)) < 0 ∨ 10 ≤ Int32.toNatClampNeg (I 6 (Int32.toNatClampNeg v5)) then False else (am_E S 167 (d + 1) 0 0 58 [.ref 59, .ref 1, .int v2, .int v3, .int v4, .int (v5 + 1), am_jk, am_jk] [] (N, am_ts T, (am_u I 62 (Int32.toNatClampNeg (I 6 (Int32.toNatClampNeg v5))) ((I 62 (Int32.toNatClampNeg (I 6 (Int32.toNatClampNeg v5)))) + 1)), L, am_rs r) Q)))) else (am_E S 167 (d + 1) 0 0 58 [.ref 59, .ref 1, .int v2, .int v3, .int v4, .int (v5 + 1), am_jk, am_jk] [] (N, am_ts T, I, L, am_rs r) Q)) from ?_)
        by_cases hc : (f_20 (I 1 9) v5) = v4
        · rw [if_pos hc] at hw ⊢
          refine am_ifn hw.1 ?_
          replace hw := hw.2
          refine am_ifn hw.1 ?_
          replace hw := hw.2
          refine am_ifn hw.1 ?_
          replace hw := hw.2
          exact ih hw hE0
        · rw [if_neg hc] at hw ⊢
          exact ih hw hE0
def lw_167_113 : Nat → Int32 → Int32 → Int32 → Int32 → am_I → (Int32 → Int32 → Prop) → Prop
  | 0, _, _, _, _, _, _ => False
  | n + 1, v2, v3, v5, v6, I, E0 =>
    if (10 : Int32) ≤ v6 then
      E0 v5 v6
    else
      ¬ (v6 < 0 ∨ 10 ≤ Int32.toNatClampNeg v6) ∧
      if (if (I 62 (Int32.toNatClampNeg v6)) < v2 then (I 62 (Int32.toNatClampNeg v6)) else v2) ≤ 0 then
        lw_167_113 n v2 v3 v5 (v6 + 1) I E0
      else
        if (2 * (if (I 62 (Int32.toNatClampNeg v6)) < v2 then (I 62 (Int32.toNatClampNeg v6)) else v2)) < (if 0 ≤ v3 then v3 else 0 - v3) then
          lw_167_113 n v2 v3 v5 (v6 + 1) I E0
        else
          lw_167_113 n v2 v3 (v5 ||| (1 <<< (v6 &&& 31))) (v6 + 1) I E0
set_option maxRecDepth 100000 in
theorem sl_167_113 {S : am_S} {d : Nat} {Q : am_Q} {N : Nat} {T : Nat → Nat × Nat} {I : am_I} {L : am_J} {r : Nat → Nat → Option Nat} {E0 : Int32 → Int32 → Prop} : ∀ (n : Nat) {v2 : Int32} {v3 : Int32} {v5 : Int32} {v6 : Int32}, lw_167_113 n v2 v3 v5 v6 I E0 → (∀ (o5 : Int32) (o6 : Int32), E0 o5 o6 → am_E S 167 (d + 1) 0 0 164 [.ref 59, am_jk, .int v2, .int v3, am_jk, .int o5, .int o6, am_jk] [] (N, am_ts T, I, L, am_rs r) Q) → am_E S 167 (d + 1) 0 0 113 [.ref 59, am_jk, .int v2, .int v3, am_jk, .int v5, .int v6, am_jk] [] (N, am_ts T, I, L, am_rs r) Q
  | 0, _, _, _, _, hw, _ => hw.elim
  | n + 1, v2, v3, v5, v6, hw, hE0 => by
    have ih := @sl_167_113 S d Q N T I L r E0 n
    unfold lw_167_113 at hw
    try dsimp only at hw
    refine am_E.run [113, 164] 2000 (show (if (10 : Int32) ≤ v6 then (am_E S 167 (d + 1) 0 0 164 [.ref 59, am_jk, .int v2, .int v3, am_jk, .int v5, .int v6, am_jk] [] (N, am_ts T, I, L, am_rs r) Q) else (if v6 < 0 ∨ 10 ≤ Int32.toNatClampNeg v6 then False else (if (if (I 62 (Int32.toNatClampNeg v6)) < v2 then (I 62 (Int32.toNatClampNeg v6)) else v2) ≤ 0 then (am_E S 167 (d + 1) 0 0 113 [.ref 59, am_jk, .int v2, .int v3, am_jk, .int v5, .int (v6 + 1), .int (if (I 62 (Int32.toNatClampNeg v6)) < v2 then (I 62 (Int32.toNatClampNeg v6)) else v2)] [] (N, am_ts T, I, L, am_rs r) Q) else (if (2 * (if (I 62 (Int32.toNatClampNeg v6)) < v2 then (I 62 (Int32.toNatClampNeg v6)) else v2)) < (if 0 ≤ v3 then v3 else 0 - v3) then (am_E S 167 (d + 1) 0 0 113 [.ref 59, am_jk, .int v2, .int v3, am_jk, .int v5, .int (v6 + 1), .int (if (I 62 (Int32.toNatClampNeg v6)) < v2 then (I 62 (Int32.toNatClampNeg v6)) else v2)] [] (N, am_ts T, I, L, am_rs r) Q) else (am_E S 167 (d + 1) 0 0 113 [.ref 59, am_jk, .int v2, .int v3, am_jk, .int (v5 ||| (1 <<< (v6 &&& 31))), .int (v6 + 1), .int (if (I 62 (Int32.toNatClampNeg v6)) < v2 then (I 62 (Int32.toNatClampNeg v6)) else v2)] [] (N, am_ts T, I, L, am_rs r) Q))))) from ?_)
    by_cases hc : (10 : Int32) ≤ v6
    · rw [if_pos hc] at hw ⊢
      exact hE0 _ _ hw
    · rw [if_neg hc] at hw ⊢
      refine am_ifn hw.1 ?_
      replace hw := hw.2
      by_cases hc : (if (I 62 (Int32.toNatClampNeg v6)) < v2 then (I 62 (Int32.toNatClampNeg v6)) else v2) ≤ 0
      · rw [if_pos hc] at hw ⊢
        exact am_E.junk (ih hw hE0) (am_le.cons (am_le.cons (am_le.cons (am_le.cons (am_le.cons (am_le.cons (am_le.cons (am_le.jk am_le.nil))))))))
      · rw [if_neg hc] at hw ⊢
        by_cases hc : (2 * (if (I 62 (Int32.toNatClampNeg v6)) < v2 then (I 62 (Int32.toNatClampNeg v6)) else v2)) < (if 0 ≤ v3 then v3 else 0 - v3)
        · rw [if_pos hc] at hw ⊢
          exact am_E.junk (ih hw hE0) (am_le.cons (am_le.cons (am_le.cons (am_le.cons (am_le.cons (am_le.cons (am_le.cons (am_le.jk am_le.nil))))))))
        · rw [if_neg hc] at hw ⊢
          exact am_E.junk (ih hw hE0) (am_le.cons (am_le.cons (am_le.cons (am_le.cons (am_le.cons (am_le.cons (am_le.cons (am_le.jk am_le.nil))))))))
/-- KeyKeepers$Counting.placesToRecount(LKeyKeepers$Prison;I)I -/
def w_167 (x1 : Int32) (I : am_I) (K : Int32 → am_I → Prop) : Prop :=
  if (0 : Int32) ≤ ((2 * (f_111 ((I 1 9) &&& (f_153 I)))) - (I 1 10)) then
    ∃ n34, lw_167_34 n34 x1 ((2 * (f_111 ((I 1 9) &&& (f_153 I)))) - (I 1 10)) 1 0 I (fun o1 I2 =>
      ∃ n58, lw_167_58 n58 x1 ((2 * (f_111 ((I 1 9) &&& (f_153 I)))) - (I 1 10)) 1 0 I2 (fun o3 I4 =>
        ∃ n113, lw_167_113 n113 x1 ((2 * (f_111 ((I 1 9) &&& (f_153 I)))) - (I 1 10)) 0 0 I4 (fun o5 o6 =>
          K o5 I4)))
  else
    ∃ n34, lw_167_34 n34 x1 ((2 * (f_111 ((I 1 9) &&& (f_153 I)))) - (I 1 10)) 0 0 I (fun o7 I8 =>
      ∃ n58, lw_167_58 n58 x1 ((2 * (f_111 ((I 1 9) &&& (f_153 I)))) - (I 1 10)) 0 0 I8 (fun o9 I10 =>
        ∃ n113, lw_167_113 n113 x1 ((2 * (f_111 ((I 1 9) &&& (f_153 I)))) - (I 1 10)) 0 0 I10 (fun o11 o12 =>
          K o11 I10)))
set_option maxRecDepth 100000 in
theorem s_167 {S : am_S} {d : Nat} {N : Nat} {T : Nat → Nat × Nat} {I : am_I} {L : am_J} {r : Nat → Nat → Option Nat} {Q : am_Q} {x1 : Int32} {K : Int32 → am_I → Prop} (hw : w_167 x1 I K) (hK : ∀ (q : Int32) (I1 : am_I), K q I1 → Q (some (.int q)) (N, am_ts T, I1, L, am_rs r)) : am_E S 167 (d + 1) 0 0 0 [.ref 59, .ref 1, .int x1, am_jk, am_jk, am_jk, am_jk, am_jk] [] (N, am_ts T, I, L, am_rs r) Q := by
  unfold w_167 at hw
  try dsimp only at hw
  refine am_E.run [6] 2000 (show (am_E S 167 (d + 1) 0 0 6 [.ref 59, .ref 1, .int x1, am_jk, am_jk, am_jk, am_jk, am_jk] [.ref 1, .int (I 1 9), .int 2] (N, am_ts T, I, L, am_rs r) Q) from ?_)
  refine am_E.go ⟨fun v h9 => v = some (.int (f_153 I)) ∧ h9 = (N, am_ts T, I, L, am_rs r), s_153 ⟨rfl, rfl⟩, ?_⟩
  intro v h9 hv
  obtain ⟨rfl, rfl⟩ := hv
  refine am_E.run [10] 2000 (show (am_E S 167 (d + 1) 0 0 10 [.ref 59, .ref 1, .int x1, am_jk, am_jk, am_jk, am_jk, am_jk] [.int ((I 1 9) &&& (f_153 I)), .int 2] (N, am_ts T, I, L, am_rs r) Q) from ?_)
  refine am_E.go ⟨fun v h9 => v = some (.int (f_111 ((I 1 9) &&& (f_153 I)))) ∧ h9 = (N, am_ts T, I, L, am_rs r), s_111 ⟨rfl, rfl⟩, ?_⟩
  intro v h9 hv
  obtain ⟨rfl, rfl⟩ := hv
  refine am_E.run [34] 2000 (show (if (0 : Int32) ≤ ((2 * (f_111 ((I 1 9) &&& (f_153 I)))) - (I 1 10)) then (am_E S 167 (d + 1) 0 0 34 [.ref 59, .ref 1, .int x1, .int ((2 * (f_111 ((I 1 9) &&& (f_153 I)))) - (I 1 10)), .int 1, .int 0, am_jk, am_jk] [] (N, am_ts T, I, L, am_rs r) Q) else (am_E S 167 (d + 1) 0 0 34 [.ref 59, .ref 1, .int x1, .int ((2 * (f_111 ((I 1 9) &&& (f_153 I)))) - (I 1 10)), .int 0, .int 0, am_jk, am_jk] [] (N, am_ts T, I, L, am_rs r) Q)) from ?_)
  by_cases hc : (0 : Int32) ≤ ((2 * (f_111 ((I 1 9) &&& (f_153 I)))) - (I 1 10))
  · rw [if_pos hc] at hw ⊢
    obtain ⟨n34, hw⟩ := hw
    refine sl_167_34 n34 hw (fun o1 I2 hw => ?_)
    · try dsimp only at hw
      refine am_E.run [58] 2000 (show (am_E S 167 (d + 1) 0 0 58 [.ref 59, .ref 1, .int x1, .int ((2 * (f_111 ((I 1 9) &&& (f_153 I)))) - (I 1 10)), .int 1, .int 0, am_jk, am_jk] [] (N, am_ts T, I2, L, am_rs r) Q) from ?_)
      obtain ⟨n58, hw⟩ := hw
      refine sl_167_58 n58 hw (fun o3 I4 hw => ?_)
      · try dsimp only at hw
        refine am_E.run [113] 2000 (show (am_E S 167 (d + 1) 0 0 113 [.ref 59, .ref 1, .int x1, .int ((2 * (f_111 ((I 1 9) &&& (f_153 I)))) - (I 1 10)), .int 1, .int 0, .int 0, am_jk] [] (N, am_ts T, I4, L, am_rs r) Q) from ?_)
        obtain ⟨n113, hw⟩ := hw
        refine am_E.junk (lo := [.ref 59, am_jk, .int x1, .int ((2 * (f_111 ((I 1 9) &&& (f_153 I)))) - (I 1 10)), am_jk, .int 0, .int 0, am_jk]) ?_ (am_le.cons (am_le.jk (am_le.cons (am_le.cons (am_le.jk (am_le.cons (am_le.cons (am_le.cons am_le.nil))))))))
        refine sl_167_113 n113 hw (fun o5 o6 hw => ?_)
        · try dsimp only at hw
          refine am_E.run [] 2000 (show (True ∧ Q (some (.int o5)) (N, am_ts T, I4, L, am_rs r)) from ?_)
          exact ⟨trivial, hK _ _ hw⟩
  · rw [if_neg hc] at hw ⊢
    obtain ⟨n34, hw⟩ := hw
    refine sl_167_34 n34 hw (fun o7 I8 hw => ?_)
    · try dsimp only at hw
      refine am_E.run [58] 2000 (show (am_E S 167 (d + 1) 0 0 58 [.ref 59, .ref 1, .int x1, .int ((2 * (f_111 ((I 1 9) &&& (f_153 I)))) - (I 1 10)), .int 0, .int 0, am_jk, am_jk] [] (N, am_ts T, I8, L, am_rs r) Q) from ?_)
      obtain ⟨n58, hw⟩ := hw
      refine sl_167_58 n58 hw (fun o9 I10 hw => ?_)
      · try dsimp only at hw
        refine am_E.run [113] 2000 (show (am_E S 167 (d + 1) 0 0 113 [.ref 59, .ref 1, .int x1, .int ((2 * (f_111 ((I 1 9) &&& (f_153 I)))) - (I 1 10)), .int 0, .int 0, .int 0, am_jk] [] (N, am_ts T, I10, L, am_rs r) Q) from ?_)
        obtain ⟨n113, hw⟩ := hw
        refine am_E.junk (lo := [.ref 59, am_jk, .int x1, .int ((2 * (f_111 ((I 1 9) &&& (f_153 I)))) - (I 1 10)), am_jk, .int 0, .int 0, am_jk]) ?_ (am_le.cons (am_le.jk (am_le.cons (am_le.cons (am_le.jk (am_le.cons (am_le.cons (am_le.cons am_le.nil))))))))
        refine sl_167_113 n113 hw (fun o11 o12 hw => ?_)
        · try dsimp only at hw
          refine am_E.run [] 2000 (show (True ∧ Q (some (.int o11)) (N, am_ts T, I10, L, am_rs r)) from ?_)
          exact ⟨trivial, hK _ _ hw⟩
/-- KeyKeepers$Nights.drawOf(I)I -/
def w_171 (x0 : Int32) (I : am_I) (K : Int32 → am_I → Prop) : Prop :=
  if x0 ≤ 0 then
    K 0 (am_u I 63 3 ((((I 63 3) * 1103) + 12345) - (((I 63 3) * 1103) + 12345) / 1000003 * 1000003))
  else
    ¬ (x0 = 0) ∧
    K (((((I 63 3) * 1103) + 12345) - (((I 63 3) * 1103) + 12345) / 1000003 * 1000003) - ((((I 63 3) * 1103) + 12345) - (((I 63 3) * 1103) + 12345) / 1000003 * 1000003) / x0 * x0) (am_u I 63 3 ((((I 63 3) * 1103) + 12345) - (((I 63 3) * 1103) + 12345) / 1000003 * 1000003))
set_option maxRecDepth 100000 in
theorem s_171 {S : am_S} {d : Nat} {N : Nat} {T : Nat → Nat × Nat} {I : am_I} {L : am_J} {r : Nat → Nat → Option Nat} {Q : am_Q} {x0 : Int32} {K : Int32 → am_I → Prop} (hw : w_171 x0 I K) (hK : ∀ (q : Int32) (I1 : am_I), K q I1 → Q (some (.int q)) (N, am_ts T, I1, L, am_rs r)) : am_E S 171 (d + 0) 0 0 0 [.ref 63, .int x0] [] (N, am_ts T, I, L, am_rs r) Q := by
  unfold w_171 at hw
  try dsimp only at hw
  refine am_E.run [] 2000 (show (if x0 ≤ 0 then (True ∧ Q (some (.int 0)) (N, am_ts T, (am_u I 63 3 ((((I 63 3) * 1103) + 12345) - (((I 63 3) * 1103) + 12345) / 1000003 * 1000003)), L, am_rs r)) else (if x0 = 0 then False else (True ∧ Q (some (.int (((((I 63 3) * 1103) + 12345) - (((I 63 3) * 1103) + 12345) / 1000003 * 1000003) - ((((I 63 3) * 1103) + 12345) - (((I 63 3) * 1103) + 12345) / 1000003 * 1000003) / x0 * x0))) (N, am_ts T, (am_u I 63 3 ((((I 63 3) * 1103) + 12345) - (((I 63 3) * 1103) + 12345) / 1000003 * 1000003)), L, am_rs r)))) from ?_)
  by_cases hc : x0 ≤ 0
  · rw [if_pos hc] at hw ⊢
    exact ⟨trivial, hK _ _ hw⟩
  · rw [if_neg hc] at hw ⊢
    refine am_ifn hw.1 ?_
    replace hw := hw.2
    exact ⟨trivial, hK _ _ hw⟩
/-- KeyKeepers.drawn(II)I -/
def w_172 (x0 : Int32) (x1 : Int32) (I : am_I) (K : Int32 → Prop) : Prop :=
  if x1 = 0 then
    if (f_13 x0 0 ((I 63 0) - 1)) = 0 then
      K (-1)
    else
      ¬ (x0 < 0 ∨ 8 ≤ Int32.toNatClampNeg x0) ∧
      K (I 64 (Int32.toNatClampNeg x0))
  else
    if x1 = 1 then
      if (I 63 0) ≤ 0 then
        K (-1)
      else
        K (I 63 1)
    else
      K (-1)
set_option maxRecDepth 100000 in
theorem s_172 {S : am_S} {d : Nat} {N : Nat} {T : Nat → Nat × Nat} {I : am_I} {L : am_J} {r : Nat → Nat → Option Nat} {Q : am_Q} {x0 : Int32} {x1 : Int32} {K : Int32 → Prop} (hw : w_172 x0 x1 I K) (hK : ∀ (q : Int32), K q → Q (some (.int q)) (N, am_ts T, I, L, am_rs r)) : am_E S 172 (d + 1) 0 0 0 [.ref 0, .int x0, .int x1] [] (N, am_ts T, I, L, am_rs r) Q := by
  unfold w_172 at hw
  try dsimp only at hw
  refine am_E.run [15] 2000 (show (if x1 = 0 then (am_E S 172 (d + 1) 0 0 15 [.ref 0, .int x0, .int x1] [.int ((I 63 0) - 1), .int 0, .int x0] (N, am_ts T, I, L, am_rs r) Q) else (if x1 = 1 then (if (I 63 0) ≤ 0 then (True ∧ Q (some (.int (-1))) (N, am_ts T, I, L, am_rs r)) else (True ∧ Q (some (.int (I 63 1))) (N, am_ts T, I, L, am_rs r))) else (True ∧ Q (some (.int (-1))) (N, am_ts T, I, L, am_rs r)))) from ?_)
  by_cases hc : x1 = 0
  · rw [if_pos hc] at hw ⊢
    refine am_E.go ⟨fun v h9 => v = some (.int (f_13 x0 0 ((I 63 0) - 1))) ∧ h9 = (N, am_ts T, I, L, am_rs r), s_13 ⟨rfl, rfl⟩, ?_⟩
    intro v h9 hv
    obtain ⟨rfl, rfl⟩ := hv
    refine am_E.run [] 2000 (show (if (f_13 x0 0 ((I 63 0) - 1)) = 0 then (True ∧ Q (some (.int (-1))) (N, am_ts T, I, L, am_rs r)) else (if x0 < 0 ∨ 8 ≤ Int32.toNatClampNeg x0 then False else (True ∧ Q (some (.int (I 64 (Int32.toNatClampNeg x0)))) (N, am_ts T, I, L, am_rs r)))) from ?_)
    by_cases hc : (f_13 x0 0 ((I 63 0) - 1)) = 0
    · rw [if_pos hc] at hw ⊢
      exact ⟨trivial, hK _ hw⟩
    · rw [if_neg hc] at hw ⊢
      refine am_ifn hw.1 ?_
      replace hw := hw.2
      exact ⟨trivial, hK _ hw⟩
  · rw [if_neg hc] at hw ⊢
    by_cases hc : x1 = 1
    · rw [if_pos hc] at hw ⊢
      by_cases hc : (I 63 0) ≤ 0
      · rw [if_pos hc] at hw ⊢
        exact ⟨trivial, hK _ hw⟩
      · rw [if_neg hc] at hw ⊢
        exact ⟨trivial, hK _ hw⟩
    · rw [if_neg hc] at hw ⊢
      exact ⟨trivial, hK _ hw⟩
