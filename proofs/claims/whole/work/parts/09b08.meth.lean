/-- KeyKeepers.image(I)I -/
def w_173 (x0 : Int32) (N : Nat) (T : Nat → Nat × Nat) (r : Nat → Nat → Option Nat) (I : am_I) (L : am_J) (K : Int32 → Nat → (Nat → Nat × Nat) → (Nat → Nat → Option Nat) → am_I → am_J → Prop) : Prop :=
  if (f_18 x0) = 0 then
    w_14 (-1) I (fun q13 I14 =>
      K q13 N T r I14 L)
  else
    ¬ (x0 < 0 ∨ 2 ≤ Int32.toNatClampNeg x0) ∧
    ((am_rs r 13 (Int32.toNatClampNeg x0)) = none →
      99 ≤ N ∧ 
      ((am_ts (am_tn T N 7 0) N).1 = 7) ∧
      w_1 N (N + 1) (am_tn T N 7 0) (am_z r N none) (am_z I N 0) (am_z L N 0) (fun N2 T2 r2 I3 L4 =>
        am_fr 13 (Int32.toNatClampNeg x0) ∧ (((am_ts T2 13).1 = 23 ∧ (am_ts T2 N).1 = 7) ∨ ((am_ts T2 13).1 = 24 ∧ (am_ts T2 N).1 = 11)) ∧ (¬ (x0 < 0 ∨ (am_ts T2 13).2 ≤ Int32.toNatClampNeg x0)) ∧ 
        ((am_ts T2 N).1 = 7) ∧
        w_80 N 1 N2 T2 (am_u r2 13 (Int32.toNatClampNeg x0) (some N)) I3 (fun N5 T5 r5 I6 =>
          w_16 0 I6 (fun q7 I8 =>
            K q7 N5 T5 r5 I8 L4)))) ∧ ∀ t1, (am_rs r 13 (Int32.toNatClampNeg x0)) = some t1 →
      ((am_ts T t1).1 = 7) ∧
      w_80 t1 1 N T r I (fun N9 T9 r9 I10 =>
        w_16 0 I10 (fun q11 I12 =>
          K q11 N9 T9 r9 I12 L))
set_option maxRecDepth 100000 in
theorem s_173 {S : am_S} {d : Nat} {N : Nat} {T : Nat → Nat × Nat} {I : am_I} {L : am_J} {r : Nat → Nat → Option Nat} {Q : am_Q} {x0 : Int32} {K : Int32 → Nat → (Nat → Nat × Nat) → (Nat → Nat → Option Nat) → am_I → am_J → Prop} (hw : w_173 x0 N T r I L K) (hK : ∀ (q : Int32) (N1 : Nat) (T1 : Nat → Nat × Nat) (r1 : Nat → Nat → Option Nat) (I1 : am_I) (L1 : am_J), K q N1 T1 r1 I1 L1 → Q (some (.int q)) (N1, am_ts T1, I1, L1, am_rs r1)) : am_E S 173 (d + 2) 0 0 0 [.ref 0, .int x0, am_jk] [] (N, am_ts T, I, L, am_rs r) Q := by
  unfold w_173 at hw
  try dsimp only at hw
  refine am_E.run [1] 2000 (show (am_E S 173 (d + 2) 0 0 1 [.ref 0, .int x0, am_jk] [.int x0] (N, am_ts T, I, L, am_rs r) Q) from ?_)
  refine am_E.go ⟨fun v h9 => v = some (.int (f_18 x0)) ∧ h9 = (N, am_ts T, I, L, am_rs r), s_18 ⟨rfl, rfl⟩, ?_⟩
  intro v h9 hv
  obtain ⟨rfl, rfl⟩ := hv
  refine am_E.run [9, 19] 2000 (show (if (f_18 x0) = 0 then (am_E S 173 (d + 2) 0 0 9 [.ref 0, .int x0, am_jk] [.int (-1), .ref 0] (N, am_ts T, I, L, am_rs r) Q) else (if x0 < 0 ∨ 2 ≤ Int32.toNatClampNeg x0 then False else (am_E S 173 (d + 2) 0 0 19 [.ref 0, .int x0, am_jk] [am_rv (am_rs r 13 (Int32.toNatClampNeg x0))] (N, am_ts T, I, L, am_rs r) Q))) from ?_)
  by_cases hc : (f_18 x0) = 0
  · rw [if_pos hc] at hw ⊢
    refine am_E.go ⟨am_ki_I N T L r _, s_14 hw (fun q13 I14 hk => ⟨q13, I14, rfl, rfl, hk⟩), ?_⟩
    intro v h9 hv
    obtain ⟨q13, I14, rfl, rfl, hw⟩ := hv
    try dsimp only at hw
    refine am_E.run [] 2000 (show (True ∧ Q (some (.int q13)) (N, am_ts T, I14, L, am_rs r)) from ?_)
    exact ⟨trivial, hK _ _ _ _ _ _ hw⟩
  · rw [if_neg hc] at hw ⊢
    refine am_ifn hw.1 ?_
    replace hw := hw.2
    cases hx : (am_rs r 13 (Int32.toNatClampNeg x0)) with
    | none =>
      replace hw := hw.1 hx
      refine am_E.run [27] 2000 (show (am_E S 173 (d + 2) 1 19 27 [.ref 0, .int x0, .null] [.ref N] (am_n (N, am_ts T, I, L, am_rs r) 7 0) Q) from ?_)
      have hN := hw.1
      replace hw := hw.2
      rw [am_n_eq hN]
      refine am_E.run [28] 2000 (show (am_E S 173 (d + 2) 1 19 28 [.ref 0, .int x0, .null] [.ref N, .ref N] ((N + 1), am_ts (am_tn T N 7 0), (am_z I N 0), (am_z L N 0), am_rs (am_z r N none)) Q) from ?_)
      refine am_E.go (show (if (List.length (List.take 0 [.ref N, .ref N]) = 0 ∧ (am_ts (am_tn T N 7 0) N).1 = 7) then _ else False) from ?_)
      refine am_ifp ⟨rfl, hw.1⟩ ?_
      replace hw := hw.2
      refine ⟨am_kv_NTrIL _, s_1 hw (fun N2 T2 r2 I3 L4 hk => ⟨N2, T2, r2, I3, L4, rfl, rfl, hk⟩), ?_⟩
      intro v h9 hv
      obtain ⟨N2, T2, r2, I3, L4, rfl, rfl, hw⟩ := hv
      try dsimp only at hw
      refine am_E.run [39] 2000 (show (if ((am_ts T2 13).1 = 23 ∧ (am_ts T2 N).1 = 7) ∨ ((am_ts T2 13).1 = 24 ∧ (am_ts T2 N).1 = 11) then (if x0 < 0 ∨ (am_ts T2 13).2 ≤ Int32.toNatClampNeg x0 then False else (am_E S 173 (d + 2) 12 109 39 [.ref 0, .int x0, .ref N] [] (N2, am_ts T2, I3, L4, am_u (am_rs r2) 13 (Int32.toNatClampNeg x0) (some N)) Q)) else False) from ?_)
      have hN := hw.1
      replace hw := hw.2
      refine am_ifp hw.1 ?_
      replace hw := hw.2
      refine am_ifn hw.1 ?_
      replace hw := hw.2
      rw [am_rs_u hN]
      refine am_E.run [44] 2000 (show (am_E S 173 (d + 2) 12 109 44 [.ref 0, .int x0, .ref N] [.ref 1, .ref N] (N2, am_ts T2, I3, L4, am_rs (am_u r2 13 (Int32.toNatClampNeg x0) (some N))) Q) from ?_)
      refine am_E.go (show (if (List.length (List.take 1 [.ref 1, .ref N]) = 1 ∧ (am_ts T2 N).1 = 7) then _ else False) from ?_)
      refine am_ifp ⟨rfl, hw.1⟩ ?_
      replace hw := hw.2
      refine ⟨am_kv_NTrI L4 _, s_80 hw (fun N5 T5 r5 I6 hk => ⟨N5, T5, r5, I6, rfl, rfl, hk⟩), ?_⟩
      intro v h9 hv
      obtain ⟨N5, T5, r5, I6, rfl, rfl, hw⟩ := hv
      try dsimp only at hw
      refine am_E.run [49] 2000 (show (am_E S 173 (d + 2) 12 109 49 [.ref 0, .int x0, .ref N] [.int 0, .ref 0] (N5, am_ts T5, I6, L4, am_rs r5) Q) from ?_)
      refine am_E.go ⟨am_ki_I N5 T5 L4 r5 _, s_16 hw (fun q7 I8 hk => ⟨q7, I8, rfl, rfl, hk⟩), ?_⟩
      intro v h9 hv
      obtain ⟨q7, I8, rfl, rfl, hw⟩ := hv
      try dsimp only at hw
      refine am_E.run [] 2000 (show (True ∧ Q (some (.int q7)) (N5, am_ts T5, I8, L4, am_rs r5)) from ?_)
      exact ⟨trivial, hK _ _ _ _ _ _ hw⟩
    | some t1 =>
      replace hw := hw.2 t1 hx
      refine am_E.run [44] 2000 (show (am_E S 173 (d + 2) 0 0 44 [.ref 0, .int x0, .ref t1] [.ref 1, .ref t1] (N, am_ts T, I, L, am_rs r) Q) from ?_)
      refine am_E.go (show (if (List.length (List.take 1 [.ref 1, .ref t1]) = 1 ∧ (am_ts T t1).1 = 7) then _ else False) from ?_)
      refine am_ifp ⟨rfl, hw.1⟩ ?_
      replace hw := hw.2
      refine ⟨am_kv_NTrI L _, s_80 hw (fun N9 T9 r9 I10 hk => ⟨N9, T9, r9, I10, rfl, rfl, hk⟩), ?_⟩
      intro v h9 hv
      obtain ⟨N9, T9, r9, I10, rfl, rfl, hw⟩ := hv
      try dsimp only at hw
      refine am_E.run [49] 2000 (show (am_E S 173 (d + 2) 0 0 49 [.ref 0, .int x0, .ref t1] [.int 0, .ref 0] (N9, am_ts T9, I10, L, am_rs r9) Q) from ?_)
      refine am_E.go ⟨am_ki_I N9 T9 L r9 _, s_16 hw (fun q11 I12 hk => ⟨q11, I12, rfl, rfl, hk⟩), ?_⟩
      intro v h9 hv
      obtain ⟨q11, I12, rfl, rfl, hw⟩ := hv
      try dsimp only at hw
      refine am_E.run [] 2000 (show (True ∧ Q (some (.int q11)) (N9, am_ts T9, I12, L, am_rs r9)) from ?_)
      exact ⟨trivial, hK _ _ _ _ _ _ hw⟩
/-- KeyKeepers.back(I)I -/
def w_174 (x0 : Int32) (N : Nat) (T : Nat → Nat × Nat) (r : Nat → Nat → Option Nat) (I : am_I) (K : Int32 → Nat → (Nat → Nat × Nat) → (Nat → Nat → Option Nat) → am_I → Prop) : Prop :=
  if (f_18 x0) = 0 then
    w_14 (-1) I (fun q9 I10 =>
      K q9 N T r I10)
  else
    ¬ (x0 < 0 ∨ 2 ≤ Int32.toNatClampNeg x0) ∧
    ((am_rs r 13 (Int32.toNatClampNeg x0)) = none →
      w_14 (-2) I (fun q2 I3 =>
        K q2 N T r I3)) ∧ ∀ t1, (am_rs r 13 (Int32.toNatClampNeg x0)) = some t1 →
      w_80 1 t1 N T r I (fun N4 T4 r4 I5 =>
        w_24 I5 (fun I6 =>
          w_16 0 I6 (fun q7 I8 =>
            K q7 N4 T4 r4 I8)))
set_option maxRecDepth 100000 in
theorem s_174 {S : am_S} {d : Nat} {N : Nat} {T : Nat → Nat × Nat} {I : am_I} {L : am_J} {r : Nat → Nat → Option Nat} {Q : am_Q} {x0 : Int32} {K : Int32 → Nat → (Nat → Nat × Nat) → (Nat → Nat → Option Nat) → am_I → Prop} (hw : w_174 x0 N T r I K) (hK : ∀ (q : Int32) (N1 : Nat) (T1 : Nat → Nat × Nat) (r1 : Nat → Nat → Option Nat) (I1 : am_I), K q N1 T1 r1 I1 → Q (some (.int q)) (N1, am_ts T1, I1, L, am_rs r1)) : am_E S 174 (d + 2) 0 0 0 [.ref 0, .int x0, am_jk] [] (N, am_ts T, I, L, am_rs r) Q := by
  unfold w_174 at hw
  try dsimp only at hw
  refine am_E.run [1] 2000 (show (am_E S 174 (d + 2) 0 0 1 [.ref 0, .int x0, am_jk] [.int x0] (N, am_ts T, I, L, am_rs r) Q) from ?_)
  refine am_E.go ⟨fun v h9 => v = some (.int (f_18 x0)) ∧ h9 = (N, am_ts T, I, L, am_rs r), s_18 ⟨rfl, rfl⟩, ?_⟩
  intro v h9 hv
  obtain ⟨rfl, rfl⟩ := hv
  refine am_E.run [9, 19] 2000 (show (if (f_18 x0) = 0 then (am_E S 174 (d + 2) 0 0 9 [.ref 0, .int x0, am_jk] [.int (-1), .ref 0] (N, am_ts T, I, L, am_rs r) Q) else (if x0 < 0 ∨ 2 ≤ Int32.toNatClampNeg x0 then False else (am_E S 174 (d + 2) 0 0 19 [.ref 0, .int x0, am_jk] [am_rv (am_rs r 13 (Int32.toNatClampNeg x0))] (N, am_ts T, I, L, am_rs r) Q))) from ?_)
  by_cases hc : (f_18 x0) = 0
  · rw [if_pos hc] at hw ⊢
    refine am_E.go ⟨am_ki_I N T L r _, s_14 hw (fun q9 I10 hk => ⟨q9, I10, rfl, rfl, hk⟩), ?_⟩
    intro v h9 hv
    obtain ⟨q9, I10, rfl, rfl, hw⟩ := hv
    try dsimp only at hw
    refine am_E.run [] 2000 (show (True ∧ Q (some (.int q9)) (N, am_ts T, I10, L, am_rs r)) from ?_)
    exact ⟨trivial, hK _ _ _ _ _ hw⟩
  · rw [if_neg hc] at hw ⊢
    refine am_ifn hw.1 ?_
    replace hw := hw.2
    cases hx : (am_rs r 13 (Int32.toNatClampNeg x0)) with
    | none =>
      replace hw := hw.1 hx
      refine am_E.run [27] 2000 (show (am_E S 174 (d + 2) 0 0 27 [.ref 0, .int x0, .null] [.int (-2), .ref 0] (N, am_ts T, I, L, am_rs r) Q) from ?_)
      refine am_E.go ⟨am_ki_I N T L r _, s_14 hw (fun q2 I3 hk => ⟨q2, I3, rfl, rfl, hk⟩), ?_⟩
      intro v h9 hv
      obtain ⟨q2, I3, rfl, rfl, hw⟩ := hv
      try dsimp only at hw
      refine am_E.run [] 2000 (show (True ∧ Q (some (.int q2)) (N, am_ts T, I3, L, am_rs r)) from ?_)
      exact ⟨trivial, hK _ _ _ _ _ hw⟩
    | some t1 =>
      replace hw := hw.2 t1 hx
      refine am_E.run [36] 2000 (show (am_E S 174 (d + 2) 0 0 36 [.ref 0, .int x0, .ref t1] [.ref t1, .ref 1] (N, am_ts T, I, L, am_rs r) Q) from ?_)
      refine am_E.go ⟨am_kv_NTrI L _, s_80 hw (fun N4 T4 r4 I5 hk => ⟨N4, T4, r4, I5, rfl, rfl, hk⟩), ?_⟩
      intro v h9 hv
      obtain ⟨N4, T4, r4, I5, rfl, rfl, hw⟩ := hv
      try dsimp only at hw
      refine am_E.run [43] 2000 (show (am_E S 174 (d + 2) 0 0 43 [.ref 0, .int x0, .ref t1] [.ref 29] (N4, am_ts T4, I5, L, am_rs r4) Q) from ?_)
      refine am_E.go ⟨am_kv_I N4 T4 L r4 _, s_24 hw (fun I6 hk => ⟨I6, rfl, rfl, hk⟩), ?_⟩
      intro v h9 hv
      obtain ⟨I6, rfl, rfl, hw⟩ := hv
      try dsimp only at hw
      refine am_E.run [48] 2000 (show (am_E S 174 (d + 2) 0 0 48 [.ref 0, .int x0, .ref t1] [.int 0, .ref 0] (N4, am_ts T4, I6, L, am_rs r4) Q) from ?_)
      refine am_E.go ⟨am_ki_I N4 T4 L r4 _, s_16 hw (fun q7 I8 hk => ⟨q7, I8, rfl, rfl, hk⟩), ?_⟩
      intro v h9 hv
      obtain ⟨q7, I8, rfl, rfl, hw⟩ := hv
      try dsimp only at hw
      refine am_E.run [] 2000 (show (True ∧ Q (some (.int q7)) (N4, am_ts T4, I8, L, am_rs r4)) from ?_)
      exact ⟨trivial, hK _ _ _ _ _ hw⟩
/-- KeyKeepers.count(I)I -/
def w_175 (x0 : Int32) (T : Nat → Nat × Nat) (r : Nat → Nat → Option Nat) (I : am_I) (K : Int32 → Prop) : Prop :=
  if (f_13 x0 7 11) = 0 then
    if (f_13 x0 14 17) = 0 then
      if x0 = 0 then
        K (I 1 2)
      else
      if x0 = 1 then
        K (I 1 10)
      else
      if x0 = 2 then
        w_86 6 T r I (fun q1 =>
          K q1)
      else
      if x0 = 3 then
        K (I 1 13)
      else
      if x0 = 4 then
        K (I 1 15)
      else
      if x0 = 5 then
        K (I 29 0)
      else
      if x0 = 6 then
        K (I 14 1)
      else
      if x0 = 7 then
        K (-1)
      else
      if x0 = 8 then
        K (-1)
      else
      if x0 = 9 then
        K (-1)
      else
      if x0 = 10 then
        K (-1)
      else
      if x0 = 11 then
        K (-1)
      else
      if x0 = 12 then
        K (I 1 16)
      else
      if x0 = 13 then
        K (I 1 18)
      else
      K (-1)
    else
      ¬ ((x0 - 14) < 0 ∨ 4 ≤ Int32.toNatClampNeg (x0 - 14)) ∧
      K (I 12 (Int32.toNatClampNeg (x0 - 14)))
  else
    ¬ ((x0 - 7) < 0 ∨ 5 ≤ Int32.toNatClampNeg (x0 - 7)) ∧
    K (I 65 (Int32.toNatClampNeg (x0 - 7)))
set_option maxRecDepth 100000 in
theorem s_175 {S : am_S} {d : Nat} {N : Nat} {T : Nat → Nat × Nat} {I : am_I} {L : am_J} {r : Nat → Nat → Option Nat} {Q : am_Q} {x0 : Int32} {K : Int32 → Prop} (hw : w_175 x0 T r I K) (hK : ∀ (q : Int32), K q → Q (some (.int q)) (N, am_ts T, I, L, am_rs r)) : am_E S 175 (d + 1) 0 0 0 [.ref 0, .int x0] [] (N, am_ts T, I, L, am_rs r) Q := by
  unfold w_175 at hw
  try dsimp only at hw
  refine am_E.run [5] 2000 (show (am_E S 175 (d + 1) 0 0 5 [.ref 0, .int x0] [.int 11, .int 7, .int x0] (N, am_ts T, I, L, am_rs r) Q) from ?_)
  refine am_E.go ⟨fun v h9 => v = some (.int (f_13 x0 7 11)) ∧ h9 = (N, am_ts T, I, L, am_rs r), s_13 ⟨rfl, rfl⟩, ?_⟩
  intro v h9 hv
  obtain ⟨rfl, rfl⟩ := hv
  refine am_E.run [26] 2000 (show (if (f_13 x0 7 11) = 0 then (am_E S 175 (d + 1) 0 0 26 [.ref 0, .int x0] [.int 17, .int 14, .int x0] (N, am_ts T, I, L, am_rs r) Q) else (if (x0 - 7) < 0 ∨ 5 ≤ Int32.toNatClampNeg (x0 - 7) then False else (True ∧ Q (some (.int (I 65 (Int32.toNatClampNeg (x0 - 7))))) (N, am_ts T, I, L, am_rs r)))) from ?_)
  by_cases hc : (f_13 x0 7 11) = 0
  · rw [if_pos hc] at hw ⊢
    refine am_E.go ⟨fun v h9 => v = some (.int (f_13 x0 14 17)) ∧ h9 = (N, am_ts T, I, L, am_rs r), s_13 ⟨rfl, rfl⟩, ?_⟩
    intro v h9 hv
    obtain ⟨rfl, rfl⟩ := hv
    refine am_E.run [46] 2000 (show (if (f_13 x0 14 17) = 0 then (am_E S 175 (d + 1) 0 0 46 [.ref 0, .int x0] [.int x0] (N, am_ts T, I, L, am_rs r) Q) else (if (x0 - 14) < 0 ∨ 4 ≤ Int32.toNatClampNeg (x0 - 14) then False else (True ∧ Q (some (.int (I 12 (Int32.toNatClampNeg (x0 - 14))))) (N, am_ts T, I, L, am_rs r)))) from ?_)
    by_cases hc : (f_13 x0 14 17) = 0
    · rw [if_pos hc] at hw ⊢
      by_cases hc0 : x0 = 0
      · rw [if_pos hc0] at hw
        refine am_E.swap (k := 0) hc0 ?_
        refine am_E.go (show (am_E S 175 (d + 1) 0 0 116 [.ref 0, .int x0] [] (N, am_ts T, I, L, am_rs r) Q) from ?_)
        refine am_E.run [] 2000 (show (True ∧ Q (some (.int (I 1 2))) (N, am_ts T, I, L, am_rs r)) from ?_)
        exact ⟨trivial, hK _ hw⟩
      rw [if_neg hc0] at hw
      by_cases hc1 : x0 = 1
      · rw [if_pos hc1] at hw
        refine am_E.swap (k := 1) hc1 ?_
        refine am_E.go (show (am_E S 175 (d + 1) 0 0 124 [.ref 0, .int x0] [] (N, am_ts T, I, L, am_rs r) Q) from ?_)
        refine am_E.run [] 2000 (show (True ∧ Q (some (.int (I 1 10))) (N, am_ts T, I, L, am_rs r)) from ?_)
        exact ⟨trivial, hK _ hw⟩
      rw [if_neg hc1] at hw
      by_cases hc2 : x0 = 2
      · rw [if_pos hc2] at hw
        refine am_E.swap (k := 2) hc2 ?_
        refine am_E.go (show (am_E S 175 (d + 1) 0 0 132 [.ref 0, .int x0] [] (N, am_ts T, I, L, am_rs r) Q) from ?_)
        refine am_E.run [143] 2000 (show (am_E S 175 (d + 1) 0 0 143 [.ref 0, .int x0] [.ref 6, .ref 1] (N, am_ts T, I, L, am_rs r) Q) from ?_)
        refine am_E.go ⟨am_ki_ N T I L r _, s_86 hw (fun q1 hk => ⟨q1, rfl, rfl, hk⟩), ?_⟩
        intro v h9 hv
        obtain ⟨q1, rfl, rfl, hw⟩ := hv
        try dsimp only at hw
        refine am_E.run [] 2000 (show (True ∧ Q (some (.int q1)) (N, am_ts T, I, L, am_rs r)) from ?_)
        exact ⟨trivial, hK _ hw⟩
      rw [if_neg hc2] at hw
      by_cases hc3 : x0 = 3
      · rw [if_pos hc3] at hw
        refine am_E.swap (k := 3) hc3 ?_
        refine am_E.go (show (am_E S 175 (d + 1) 0 0 147 [.ref 0, .int x0] [] (N, am_ts T, I, L, am_rs r) Q) from ?_)
        refine am_E.run [] 2000 (show (True ∧ Q (some (.int (I 1 13))) (N, am_ts T, I, L, am_rs r)) from ?_)
        exact ⟨trivial, hK _ hw⟩
      rw [if_neg hc3] at hw
      by_cases hc4 : x0 = 4
      · rw [if_pos hc4] at hw
        refine am_E.swap (k := 4) hc4 ?_
        refine am_E.go (show (am_E S 175 (d + 1) 0 0 155 [.ref 0, .int x0] [] (N, am_ts T, I, L, am_rs r) Q) from ?_)
        refine am_E.run [] 2000 (show (True ∧ Q (some (.int (I 1 15))) (N, am_ts T, I, L, am_rs r)) from ?_)
        exact ⟨trivial, hK _ hw⟩
      rw [if_neg hc4] at hw
      by_cases hc5 : x0 = 5
      · rw [if_pos hc5] at hw
        refine am_E.swap (k := 5) hc5 ?_
        refine am_E.go (show (am_E S 175 (d + 1) 0 0 163 [.ref 0, .int x0] [] (N, am_ts T, I, L, am_rs r) Q) from ?_)
        refine am_E.run [] 2000 (show (True ∧ Q (some (.int (I 29 0))) (N, am_ts T, I, L, am_rs r)) from ?_)
        exact ⟨trivial, hK _ hw⟩
      rw [if_neg hc5] at hw
      by_cases hc6 : x0 = 6
      · rw [if_pos hc6] at hw
        refine am_E.swap (k := 6) hc6 ?_
        refine am_E.go (show (am_E S 175 (d + 1) 0 0 171 [.ref 0, .int x0] [] (N, am_ts T, I, L, am_rs r) Q) from ?_)
        refine am_E.run [] 2000 (show (True ∧ Q (some (.int (I 14 1))) (N, am_ts T, I, L, am_rs r)) from ?_)
        exact ⟨trivial, hK _ hw⟩
      rw [if_neg hc6] at hw
      by_cases hc7 : x0 = 7
      · rw [if_pos hc7] at hw
        refine am_E.swap (k := 7) hc7 ?_
        refine am_E.go (show (am_E S 175 (d + 1) 0 0 195 [.ref 0, .int x0] [] (N, am_ts T, I, L, am_rs r) Q) from ?_)
        refine am_E.run [] 2000 (show (True ∧ Q (some (.int (-1))) (N, am_ts T, I, L, am_rs r)) from ?_)
        exact ⟨trivial, hK _ hw⟩
      rw [if_neg hc7] at hw
      by_cases hc8 : x0 = 8
      · rw [if_pos hc8] at hw
        refine am_E.swap (k := 8) hc8 ?_
        refine am_E.go (show (am_E S 175 (d + 1) 0 0 195 [.ref 0, .int x0] [] (N, am_ts T, I, L, am_rs r) Q) from ?_)
        refine am_E.run [] 2000 (show (True ∧ Q (some (.int (-1))) (N, am_ts T, I, L, am_rs r)) from ?_)
        exact ⟨trivial, hK _ hw⟩
      rw [if_neg hc8] at hw
      by_cases hc9 : x0 = 9
      · rw [if_pos hc9] at hw
        refine am_E.swap (k := 9) hc9 ?_
        refine am_E.go (show (am_E S 175 (d + 1) 0 0 195 [.ref 0, .int x0] [] (N, am_ts T, I, L, am_rs r) Q) from ?_)
        refine am_E.run [] 2000 (show (True ∧ Q (some (.int (-1))) (N, am_ts T, I, L, am_rs r)) from ?_)
        exact ⟨trivial, hK _ hw⟩
      rw [if_neg hc9] at hw
      by_cases hc10 : x0 = 10
      · rw [if_pos hc10] at hw
        refine am_E.swap (k := 10) hc10 ?_
        refine am_E.go (show (am_E S 175 (d + 1) 0 0 195 [.ref 0, .int x0] [] (N, am_ts T, I, L, am_rs r) Q) from ?_)
        refine am_E.run [] 2000 (show (True ∧ Q (some (.int (-1))) (N, am_ts T, I, L, am_rs r)) from ?_)
        exact ⟨trivial, hK _ hw⟩
      rw [if_neg hc10] at hw
      by_cases hc11 : x0 = 11
      · rw [if_pos hc11] at hw
        refine am_E.swap (k := 11) hc11 ?_
        refine am_E.go (show (am_E S 175 (d + 1) 0 0 195 [.ref 0, .int x0] [] (N, am_ts T, I, L, am_rs r) Q) from ?_)
        refine am_E.run [] 2000 (show (True ∧ Q (some (.int (-1))) (N, am_ts T, I, L, am_rs r)) from ?_)
        exact ⟨trivial, hK _ hw⟩
      rw [if_neg hc11] at hw
      by_cases hc12 : x0 = 12
      · rw [if_pos hc12] at hw
        refine am_E.swap (k := 12) hc12 ?_
        refine am_E.go (show (am_E S 175 (d + 1) 0 0 179 [.ref 0, .int x0] [] (N, am_ts T, I, L, am_rs r) Q) from ?_)
        refine am_E.run [] 2000 (show (True ∧ Q (some (.int (I 1 16))) (N, am_ts T, I, L, am_rs r)) from ?_)
        exact ⟨trivial, hK _ hw⟩
      rw [if_neg hc12] at hw
      by_cases hc13 : x0 = 13
      · rw [if_pos hc13] at hw
        refine am_E.swap (k := 13) hc13 ?_
        refine am_E.go (show (am_E S 175 (d + 1) 0 0 187 [.ref 0, .int x0] [] (N, am_ts T, I, L, am_rs r) Q) from ?_)
        refine am_E.run [] 2000 (show (True ∧ Q (some (.int (I 1 18))) (N, am_ts T, I, L, am_rs r)) from ?_)
        exact ⟨trivial, hK _ hw⟩
      rw [if_neg hc13] at hw
      have hd : (x0).toInt < 0 ∨ 13 < (x0).toInt := by
        have g0 := am_ine hc0
        have g1 := am_ine hc1
        have g2 := am_ine hc2
        have g3 := am_ine hc3
        have g4 := am_ine hc4
        have g5 := am_ine hc5
        have g6 := am_ine hc6
        have g7 := am_ine hc7
        have g8 := am_ine hc8
        have g9 := am_ine hc9
        have g10 := am_ine hc10
        have g11 := am_ine hc11
        have g12 := am_ine hc12
        have g13 := am_ine hc13
        change (x0).toInt ≠ 0 at g0
        change (x0).toInt ≠ 1 at g1
        change (x0).toInt ≠ 2 at g2
        change (x0).toInt ≠ 3 at g3
        change (x0).toInt ≠ 4 at g4
        change (x0).toInt ≠ 5 at g5
        change (x0).toInt ≠ 6 at g6
        change (x0).toInt ≠ 7 at g7
        change (x0).toInt ≠ 8 at g8
        change (x0).toInt ≠ 9 at g9
        change (x0).toInt ≠ 10 at g10
        change (x0).toInt ≠ 11 at g11
        change (x0).toInt ≠ 12 at g12
        change (x0).toInt ≠ 13 at g13
        omega
      refine am_E.go (show (if (x0).toInt < 0 ∨ 13 < (x0).toInt then (am_E S 175 (d + 1) 0 0 195 [.ref 0, .int x0] [] (N, am_ts T, I, L, am_rs r) Q) else _) from ?_)
      rw [if_pos hd]
      refine am_E.run [] 2000 (show (True ∧ Q (some (.int (-1))) (N, am_ts T, I, L, am_rs r)) from ?_)
      exact ⟨trivial, hK _ hw⟩
    · rw [if_neg hc] at hw ⊢
      refine am_ifn hw.1 ?_
      replace hw := hw.2
      exact ⟨trivial, hK _ hw⟩
  · rw [if_neg hc] at hw ⊢
    refine am_ifn hw.1 ?_
    replace hw := hw.2
    exact ⟨trivial, hK _ hw⟩
/-- KeyKeepers.status()I -/
def f_176 (I : am_I) : Int32 :=
  (I 0 12)
set_option maxRecDepth 100000 in
theorem s_176 {S : am_S} {d : Nat} {N : Nat} {T : Nat → Nat × Nat} {I : am_I} {L : am_J} {r : Nat → Nat → Option Nat} {Q : am_Q} (hq : Q (some (.int (f_176 I))) (N, am_ts T, I, L, am_rs r)) : am_E S 176 (d + 0) 0 0 0 [.ref 0] [] (N, am_ts T, I, L, am_rs r) Q := by
  unfold f_176 at hq
  try dsimp only at hq
  refine am_E.run [] 2000 (show (True ∧ Q (some (.int (I 0 12))) (N, am_ts T, I, L, am_rs r)) from ?_)
  exact ⟨trivial, hq⟩
/-- KeyKeepersModel.tell(I)I -/
def w_179 (x0 : Int32) (I : am_I) (K : Int32 → am_I → Prop) : Prop :=
  if (0 : Int32) ≤ x0 then
    if (0 : Int32) ≤ x0 then
      K x0 (am_u I 66 1 0)
    else
      ¬ ((-x0) < 0 ∨ 7 ≤ Int32.toNatClampNeg (-x0)) ∧
      ¬ ((-x0) < 0 ∨ 7 ≤ Int32.toNatClampNeg (-x0)) ∧
      K x0 (am_u (am_u I 66 1 0) 67 (Int32.toNatClampNeg (-x0)) ((I 67 (Int32.toNatClampNeg (-x0))) + 1))
  else
    if (0 : Int32) ≤ x0 then
      K x0 (am_u I 66 1 x0)
    else
      ¬ ((-x0) < 0 ∨ 7 ≤ Int32.toNatClampNeg (-x0)) ∧
      ¬ ((-x0) < 0 ∨ 7 ≤ Int32.toNatClampNeg (-x0)) ∧
      K x0 (am_u (am_u I 66 1 x0) 67 (Int32.toNatClampNeg (-x0)) ((I 67 (Int32.toNatClampNeg (-x0))) + 1))
set_option maxRecDepth 100000 in
theorem s_179 {S : am_S} {d : Nat} {N : Nat} {T : Nat → Nat × Nat} {I : am_I} {L : am_J} {r : Nat → Nat → Option Nat} {Q : am_Q} {x0 : Int32} {K : Int32 → am_I → Prop} (hw : w_179 x0 I K) (hK : ∀ (q : Int32) (I1 : am_I), K q I1 → Q (some (.int q)) (N, am_ts T, I1, L, am_rs r)) : am_E S 179 (d + 0) 0 0 0 [.ref 66, .int x0] [] (N, am_ts T, I, L, am_rs r) Q := by
  unfold w_179 at hw
  try dsimp only at hw
  refine am_E.run [] 2000 (show (if (0 : Int32) ≤ x0 then (if (0 : Int32) ≤ x0 then (True ∧ Q (some (.int x0)) (N, am_ts T, (am_u I 66 1 0), L, am_rs r)) else (if (-x0) < 0 ∨ 7 ≤ Int32.toNatClampNeg (-x0) then False else (if (-x0) < 0 ∨ 7 ≤ Int32.toNatClampNeg (-x0) then False else (True ∧ Q (some (.int x0)) (N, am_ts T, (am_u (am_u I 66 1 0) 67 (Int32.toNatClampNeg (-x0)) ((I 67 (Int32.toNatClampNeg (-x0))) + 1)), L, am_rs r))))) else (if (0 : Int32) ≤ x0 then (True ∧ Q (some (.int x0)) (N, am_ts T, (am_u I 66 1 x0), L, am_rs r)) else (if (-x0) < 0 ∨ 7 ≤ Int32.toNatClampNeg (-x0) then False else (if (-x0) < 0 ∨ 7 ≤ Int32.toNatClampNeg (-x0) then False else (True ∧ Q (some (.int x0)) (N, am_ts T, (am_u (am_u I 66 1 x0) 67 (Int32.toNatClampNeg (-x0)) ((I 67 (Int32.toNatClampNeg (-x0))) + 1)), L, am_rs r)))))) from ?_)
  by_cases hc : (0 : Int32) ≤ x0
  · rw [if_pos hc] at hw ⊢
    by_cases hc : (0 : Int32) ≤ x0
    · rw [if_pos hc] at hw ⊢
      exact ⟨trivial, hK _ _ hw⟩
    · rw [if_neg hc] at hw ⊢
      refine am_ifn hw.1 ?_
      replace hw := hw.2
      refine am_ifn hw.1 ?_
      replace hw := hw.2
      exact ⟨trivial, hK _ _ hw⟩
  · rw [if_neg hc] at hw ⊢
    by_cases hc : (0 : Int32) ≤ x0
    · rw [if_pos hc] at hw ⊢
      exact ⟨trivial, hK _ _ hw⟩
    · rw [if_neg hc] at hw ⊢
      refine am_ifn hw.1 ?_
      replace hw := hw.2
      refine am_ifn hw.1 ?_
      replace hw := hw.2
      exact ⟨trivial, hK _ _ hw⟩
def lw_180_2 : Nat → Int32 → Int32 → am_I → (Int32 → am_I → Prop) → Prop
  | 0, _, _, _, _ => False
  | n + 1, v1, v2, I, E0 =>
    if (21 : Int32) ≤ v2 then
      E0 v2 I
    else
      ¬ (((21 * v1) + v2) < 0 ∨ 378 ≤ Int32.toNatClampNeg ((21 * v1) + v2)) ∧
      ¬ ((5 + v2) < 0 ∨ 5510 ≤ Int32.toNatClampNeg (5 + v2)) ∧
      lw_180_2 n v1 (v2 + 1) (am_u I 68 (Int32.toNatClampNeg (5 + v2)) (I 71 (Int32.toNatClampNeg ((21 * v1) + v2)))) E0
set_option maxRecDepth 100000 in
theorem sl_180_2 {S : am_S} {d : Nat} {Q : am_Q} {N : Nat} {T : Nat → Nat × Nat} {L : am_J} {r : Nat → Nat → Option Nat} {E0 : Int32 → am_I → Prop} : ∀ (n : Nat) {v1 : Int32} {v2 : Int32} {I : am_I}, lw_180_2 n v1 v2 I E0 → (∀ (o2 : Int32) (I1 : am_I), E0 o2 I1 → am_E S 180 (d + 0) 0 0 33 [.ref 66, .int v1, .int o2] [] (N, am_ts T, I1, L, am_rs r) Q) → am_E S 180 (d + 0) 0 0 2 [.ref 66, .int v1, .int v2] [] (N, am_ts T, I, L, am_rs r) Q
  | 0, _, _, _, hw, _ => hw.elim
  | n + 1, v1, v2, I, hw, hE0 => by
    have ih := @sl_180_2 S d Q N T L r E0 n
    unfold lw_180_2 at hw
    try dsimp only at hw
    refine am_E.run [2, 33] 2000 (show (if (21 : Int32) ≤ v2 then (am_E S 180 (d + 0) 0 0 33 [.ref 66, .int v1, .int v2] [] (N, am_ts T, I, L, am_rs r) Q) else (if ((21 * v1) + v2) < 0 ∨ 378 ≤ Int32.toNatClampNeg ((21 * v1) + v2) then False else (if (5 + v2) < 0 ∨ 5510 ≤ Int32.toNatClampNeg (5 + v2) then False else (am_E S 180 (d + 0) 0 0 2 [.ref 66, .int v1, .int (v2 + 1)] [] (N, am_ts T, (am_u I 68 (Int32.toNatClampNeg (5 + v2)) (I 71 (Int32.toNatClampNeg ((21 * v1) + v2)))), L, am_rs r) Q)))) from ?_)
    by_cases hc : (21 : Int32) ≤ v2
    · rw [if_pos hc] at hw ⊢
      exact hE0 _ _ hw
    · rw [if_neg hc] at hw ⊢
      refine am_ifn hw.1 ?_
      replace hw := hw.2
      refine am_ifn hw.1 ?_
      replace hw := hw.2
      exact ih hw hE0
/-- KeyKeepersModel.putBack(I)V -/
def w_180 (x0 : Int32) (I : am_I) (K : am_I → Prop) : Prop :=
  ∃ n2, lw_180_2 n2 x0 0 I (fun o1 I2 =>
    K I2)
set_option maxRecDepth 100000 in
theorem s_180 {S : am_S} {d : Nat} {N : Nat} {T : Nat → Nat × Nat} {I : am_I} {L : am_J} {r : Nat → Nat → Option Nat} {Q : am_Q} {x0 : Int32} {K : am_I → Prop} (hw : w_180 x0 I K) (hK : ∀ (I1 : am_I), K I1 → Q (none) (N, am_ts T, I1, L, am_rs r)) : am_E S 180 (d + 0) 0 0 0 [.ref 66, .int x0, am_jk] [] (N, am_ts T, I, L, am_rs r) Q := by
  unfold w_180 at hw
  try dsimp only at hw
  refine am_E.run [2] 2000 (show (am_E S 180 (d + 0) 0 0 2 [.ref 66, .int x0, .int 0] [] (N, am_ts T, I, L, am_rs r) Q) from ?_)
  obtain ⟨n2, hw⟩ := hw
  refine sl_180_2 n2 hw (fun o1 I2 hw => ?_)
  · try dsimp only at hw
    refine am_E.run [] 2000 (show (True ∧ Q (none) (N, am_ts T, I2, L, am_rs r)) from ?_)
    exact ⟨trivial, hK _ hw⟩
/-- KeyKeepersModel.in(JJJ)Z -/
def f_182 (x0 : Int64) (x1 : Int64) (x2 : Int64) : Int32 :=
  if (lg_cmp x0 x1) < 0 then
    0
  else
    if (0 : Int32) < (lg_cmp x0 x2) then
      0
    else
      1
set_option maxRecDepth 100000 in
theorem s_182 {S : am_S} {d : Nat} {N : Nat} {T : Nat → Nat × Nat} {I : am_I} {L : am_J} {r : Nat → Nat → Option Nat} {Q : am_Q} {x0 : Int64} {x1 : Int64} {x2 : Int64} (hq : Q (some (.int (f_182 x0 x1 x2))) (N, am_ts T, I, L, am_rs r)) : am_E S 182 (d + 0) 0 0 0 [.long x0, am_jk, .long x1, am_jk, .long x2, am_jk] [] (N, am_ts T, I, L, am_rs r) Q := by
  unfold f_182 at hq
  try dsimp only at hq
  refine am_E.run [] 2000 (show (if (lg_cmp x0 x1) < 0 then (((0 : Int32) = 0 ∨ (0 : Int32) = 1) ∧ Q (some (.int 0)) (N, am_ts T, I, L, am_rs r)) else (if (0 : Int32) < (lg_cmp x0 x2) then (((0 : Int32) = 0 ∨ (0 : Int32) = 1) ∧ Q (some (.int 0)) (N, am_ts T, I, L, am_rs r)) else (((1 : Int32) = 0 ∨ (1 : Int32) = 1) ∧ Q (some (.int 1)) (N, am_ts T, I, L, am_rs r)))) from ?_)
  by_cases hc : (lg_cmp x0 x1) < 0
  · rw [if_pos hc] at hq ⊢
    exact ⟨Or.inl rfl, hq⟩
  · rw [if_neg hc] at hq ⊢
    by_cases hc : (0 : Int32) < (lg_cmp x0 x2)
    · rw [if_pos hc] at hq ⊢
      exact ⟨Or.inl rfl, hq⟩
    · rw [if_neg hc] at hq ⊢
      exact ⟨Or.inr rfl, hq⟩
theorem b_182 {x0 : Int64} {x1 : Int64} {x2 : Int64} : (f_182 x0 x1 x2) = 0 ∨ (f_182 x0 x1 x2) = 1 := by
  unfold f_182
  (repeat' split) <;> first | exact Or.inl rfl | exact Or.inr rfl
/-- KeyKeepersModel.settled(I)I -/
def w_184 (x0 : Int32) (I : am_I) (K : Int32 → am_I → Prop) : Prop :=
  if (0 : Int32) ≤ x0 then
    w_179 x0 (am_u I 66 8 0) (fun q1 I2 =>
      K q1 I2)
  else
    w_179 x0 (am_u I 66 8 (I 66 8)) (fun q3 I4 =>
      K q3 I4)
set_option maxRecDepth 100000 in
theorem s_184 {S : am_S} {d : Nat} {N : Nat} {T : Nat → Nat × Nat} {I : am_I} {L : am_J} {r : Nat → Nat → Option Nat} {Q : am_Q} {x0 : Int32} {K : Int32 → am_I → Prop} (hw : w_184 x0 I K) (hK : ∀ (q : Int32) (I1 : am_I), K q I1 → Q (some (.int q)) (N, am_ts T, I1, L, am_rs r)) : am_E S 184 (d + 1) 0 0 0 [.ref 66, .int x0] [] (N, am_ts T, I, L, am_rs r) Q := by
  unfold w_184 at hw
  try dsimp only at hw
  refine am_E.run [18] 2000 (show (if (0 : Int32) ≤ x0 then (am_E S 184 (d + 1) 0 0 18 [.ref 66, .int x0] [.int x0, .ref 66] (N, am_ts T, (am_u I 66 8 0), L, am_rs r) Q) else (am_E S 184 (d + 1) 0 0 18 [.ref 66, .int x0] [.int x0, .ref 66] (N, am_ts T, (am_u I 66 8 (I 66 8)), L, am_rs r) Q)) from ?_)
  by_cases hc : (0 : Int32) ≤ x0
  · rw [if_pos hc] at hw ⊢
    refine am_E.go ⟨am_ki_I N T L r _, s_179 hw (fun q1 I2 hk => ⟨q1, I2, rfl, rfl, hk⟩), ?_⟩
    intro v h9 hv
    obtain ⟨q1, I2, rfl, rfl, hw⟩ := hv
    try dsimp only at hw
    refine am_E.run [] 2000 (show (True ∧ Q (some (.int q1)) (N, am_ts T, I2, L, am_rs r)) from ?_)
    exact ⟨trivial, hK _ _ hw⟩
  · rw [if_neg hc] at hw ⊢
    refine am_E.go ⟨am_ki_I N T L r _, s_179 hw (fun q3 I4 hk => ⟨q3, I4, rfl, rfl, hk⟩), ?_⟩
    intro v h9 hv
    obtain ⟨q3, I4, rfl, rfl, hw⟩ := hv
    try dsimp only at hw
    refine am_E.run [] 2000 (show (True ∧ Q (some (.int q3)) (N, am_ts T, I4, L, am_rs r)) from ?_)
    exact ⟨trivial, hK _ _ hw⟩
/-- KeyKeepersModel.door(II)I -/
def w_185 (x0 : Int32) (x1 : Int32) (I : am_I) (K : Int32 → am_I → Prop) : Prop :=
  if (f_182 (Int32.toInt64 x0) 0 9) = 0 then
    w_179 (-1) (am_u I 66 0 0) (fun q1 I2 =>
      K q1 I2)
  else
    if (f_182 (Int32.toInt64 x1) 0 9) = 0 then
      w_179 (-1) (am_u I 66 0 0) (fun q3 I4 =>
        K q3 I4)
    else
      if x0 = x1 then
        w_179 (-1) (am_u I 66 0 0) (fun q9 I10 =>
          K q9 I10)
      else
        if (I 68 0) = 12 then
          w_179 (-5) (am_u I 66 0 0) (fun q7 I8 =>
            K q7 I8)
        else
          ¬ ((58 + (3 * (I 68 0))) < 0 ∨ 5510 ≤ Int32.toNatClampNeg (58 + (3 * (I 68 0)))) ∧
          ¬ (((58 + (3 * (I 68 0))) + 1) < 0 ∨ 5510 ≤ Int32.toNatClampNeg ((58 + (3 * (I 68 0))) + 1)) ∧
          ¬ (((58 + (3 * (I 68 0))) + 2) < 0 ∨ 5510 ≤ Int32.toNatClampNeg ((58 + (3 * (I 68 0))) + 2)) ∧
          w_179 (I 68 0) (am_u (am_u (am_u (am_u (am_u I 66 0 0) 68 (Int32.toNatClampNeg (58 + (3 * (I 68 0)))) x0) 68 (Int32.toNatClampNeg ((58 + (3 * (I 68 0))) + 1)) x1) 68 (Int32.toNatClampNeg ((58 + (3 * (I 68 0))) + 2)) 0) 68 0 (((am_u (am_u (am_u (am_u I 66 0 0) 68 (Int32.toNatClampNeg (58 + (3 * (I 68 0)))) x0) 68 (Int32.toNatClampNeg ((58 + (3 * (I 68 0))) + 1)) x1) 68 (Int32.toNatClampNeg ((58 + (3 * (I 68 0))) + 2)) 0) 68 0) + 1)) (fun q5 I6 =>
            K q5 I6)
set_option maxRecDepth 100000 in
theorem s_185 {S : am_S} {d : Nat} {N : Nat} {T : Nat → Nat × Nat} {I : am_I} {L : am_J} {r : Nat → Nat → Option Nat} {Q : am_Q} {x0 : Int32} {x1 : Int32} {K : Int32 → am_I → Prop} (hw : w_185 x0 x1 I K) (hK : ∀ (q : Int32) (I1 : am_I), K q I1 → Q (some (.int q)) (N, am_ts T, I1, L, am_rs r)) : am_E S 185 (d + 1) 0 0 0 [.ref 66, .int x0, .int x1, am_jk, am_jk] [] (N, am_ts T, I, L, am_rs r) Q := by
  unfold w_185 at hw
  try dsimp only at hw
  refine am_E.run [11] 2000 (show (am_E S 185 (d + 1) 0 0 11 [.ref 66, .int x0, .int x1, am_jk, am_jk] [.long 9, .long 0, .long (Int32.toInt64 x0)] (N, am_ts T, (am_u I 66 0 0), L, am_rs r) Q) from ?_)
  refine am_E.go ⟨fun v h9 => v = some (.int (f_182 (Int32.toInt64 x0) 0 9)) ∧ h9 = (N, am_ts T, (am_u I 66 0 0), L, am_rs r), s_182 ⟨rfl, rfl⟩, ?_⟩
  intro v h9 hv
  obtain ⟨rfl, rfl⟩ := hv
  refine am_E.run [23, 36] 2000 (show (if (f_182 (Int32.toInt64 x0) 0 9) = 0 then (am_E S 185 (d + 1) 0 0 36 [.ref 66, .int x0, .int x1, am_jk, am_jk] [.int (-1), .ref 66] (N, am_ts T, (am_u I 66 0 0), L, am_rs r) Q) else (am_E S 185 (d + 1) 0 0 23 [.ref 66, .int x0, .int x1, am_jk, am_jk] [.long 9, .long 0, .long (Int32.toInt64 x1)] (N, am_ts T, (am_u I 66 0 0), L, am_rs r) Q)) from ?_)
  by_cases hc : (f_182 (Int32.toInt64 x0) 0 9) = 0
  · rw [if_pos hc] at hw ⊢
    refine am_E.go ⟨am_ki_I N T L r _, s_179 hw (fun q1 I2 hk => ⟨q1, I2, rfl, rfl, hk⟩), ?_⟩
    intro v h9 hv
    obtain ⟨q1, I2, rfl, rfl, hw⟩ := hv
    try dsimp only at hw
    refine am_E.run [] 2000 (show (True ∧ Q (some (.int q1)) (N, am_ts T, I2, L, am_rs r)) from ?_)
    exact ⟨trivial, hK _ _ hw⟩
  · rw [if_neg hc] at hw ⊢
    refine am_E.go ⟨fun v h9 => v = some (.int (f_182 (Int32.toInt64 x1) 0 9)) ∧ h9 = (N, am_ts T, (am_u I 66 0 0), L, am_rs r), s_182 ⟨rfl, rfl⟩, ?_⟩
    intro v h9 hv
    obtain ⟨rfl, rfl⟩ := hv
    refine am_E.run [36, 56, 108] 2000 (show (if (f_182 (Int32.toInt64 x1) 0 9) = 0 then (am_E S 185 (d + 1) 0 0 36 [.ref 66, .int x0, .int x1, am_jk, am_jk] [.int (-1), .ref 66] (N, am_ts T, (am_u I 66 0 0), L, am_rs r) Q) else (if x0 = x1 then (am_E S 185 (d + 1) 0 0 36 [.ref 66, .int x0, .int x1, am_jk, am_jk] [.int (-1), .ref 66] (N, am_ts T, (am_u I 66 0 0), L, am_rs r) Q) else (if (I 68 0) = 12 then (am_E S 185 (d + 1) 0 0 56 [.ref 66, .int x0, .int x1, .int (I 68 0), am_jk] [.int (-5), .ref 66] (N, am_ts T, (am_u I 66 0 0), L, am_rs r) Q) else (if (58 + (3 * (I 68 0))) < 0 ∨ 5510 ≤ Int32.toNatClampNeg (58 + (3 * (I 68 0))) then False else (if ((58 + (3 * (I 68 0))) + 1) < 0 ∨ 5510 ≤ Int32.toNatClampNeg ((58 + (3 * (I 68 0))) + 1) then False else (if ((58 + (3 * (I 68 0))) + 2) < 0 ∨ 5510 ≤ Int32.toNatClampNeg ((58 + (3 * (I 68 0))) + 2) then False else (am_E S 185 (d + 1) 0 0 108 [.ref 66, .int x0, .int x1, .int (I 68 0), .int (58 + (3 * (I 68 0)))] [.int (I 68 0), .ref 66] (N, am_ts T, (am_u (am_u (am_u (am_u (am_u I 66 0 0) 68 (Int32.toNatClampNeg (58 + (3 * (I 68 0)))) x0) 68 (Int32.toNatClampNeg ((58 + (3 * (I 68 0))) + 1)) x1) 68 (Int32.toNatClampNeg ((58 + (3 * (I 68 0))) + 2)) 0) 68 0 (((am_u (am_u (am_u (am_u I 66 0 0) 68 (Int32.toNatClampNeg (58 + (3 * (I 68 0)))) x0) 68 (Int32.toNatClampNeg ((58 + (3 * (I 68 0))) + 1)) x1) 68 (Int32.toNatClampNeg ((58 + (3 * (I 68 0))) + 2)) 0) 68 0) + 1)), L, am_rs r) Q))))))) from ?_)
    by_cases hc : (f_182 (Int32.toInt64 x1) 0 9) = 0
    · rw [if_pos hc] at hw ⊢
      refine am_E.go ⟨am_ki_I N T L r _, s_179 hw (fun q3 I4 hk => ⟨q3, I4, rfl, rfl, hk⟩), ?_⟩
      intro v h9 hv
      obtain ⟨q3, I4, rfl, rfl, hw⟩ := hv
      try dsimp only at hw
      refine am_E.run [] 2000 (show (True ∧ Q (some (.int q3)) (N, am_ts T, I4, L, am_rs r)) from ?_)
      exact ⟨trivial, hK _ _ hw⟩
    · rw [if_neg hc] at hw ⊢
      by_cases hc : x0 = x1
      · rw [if_pos hc] at hw ⊢
        refine am_E.go ⟨am_ki_I N T L r _, s_179 hw (fun q9 I10 hk => ⟨q9, I10, rfl, rfl, hk⟩), ?_⟩
        intro v h9 hv
        obtain ⟨q9, I10, rfl, rfl, hw⟩ := hv
        try dsimp only at hw
        refine am_E.run [] 2000 (show (True ∧ Q (some (.int q9)) (N, am_ts T, I10, L, am_rs r)) from ?_)
        exact ⟨trivial, hK _ _ hw⟩
      · rw [if_neg hc] at hw ⊢
        by_cases hc : (I 68 0) = 12
        · rw [if_pos hc] at hw ⊢
          refine am_E.go ⟨am_ki_I N T L r _, s_179 hw (fun q7 I8 hk => ⟨q7, I8, rfl, rfl, hk⟩), ?_⟩
          intro v h9 hv
          obtain ⟨q7, I8, rfl, rfl, hw⟩ := hv
          try dsimp only at hw
          refine am_E.run [] 2000 (show (True ∧ Q (some (.int q7)) (N, am_ts T, I8, L, am_rs r)) from ?_)
          exact ⟨trivial, hK _ _ hw⟩
        · rw [if_neg hc] at hw ⊢
          refine am_ifn hw.1 ?_
          replace hw := hw.2
          refine am_ifn hw.1 ?_
          replace hw := hw.2
          refine am_ifn hw.1 ?_
          replace hw := hw.2
          refine am_E.go ⟨am_ki_I N T L r _, s_179 hw (fun q5 I6 hk => ⟨q5, I6, rfl, rfl, hk⟩), ?_⟩
          intro v h9 hv
          obtain ⟨q5, I6, rfl, rfl, hw⟩ := hv
          try dsimp only at hw
          refine am_E.run [] 2000 (show (True ∧ Q (some (.int q5)) (N, am_ts T, I6, L, am_rs r)) from ?_)
          exact ⟨trivial, hK _ _ hw⟩
/-- KeyKeepersModel.isDoor(I)Z -/
def f_187 (x0 : Int32) (I : am_I) : Int32 :=
  (f_182 (Int32.toInt64 x0) 0 ((Int32.toInt64 (I 68 0)) - 1))
set_option maxRecDepth 100000 in
theorem s_187 {S : am_S} {d : Nat} {N : Nat} {T : Nat → Nat × Nat} {I : am_I} {L : am_J} {r : Nat → Nat → Option Nat} {Q : am_Q} {x0 : Int32} (hq : Q (some (.int (f_187 x0 I))) (N, am_ts T, I, L, am_rs r)) : am_E S 187 (d + 1) 0 0 0 [.ref 66, .int x0] [] (N, am_ts T, I, L, am_rs r) Q := by
  unfold f_187 at hq
  try dsimp only at hq
  refine am_E.run [12] 2000 (show (am_E S 187 (d + 1) 0 0 12 [.ref 66, .int x0] [.long ((Int32.toInt64 (I 68 0)) - 1), .long 0, .long (Int32.toInt64 x0)] (N, am_ts T, I, L, am_rs r) Q) from ?_)
  refine am_E.go ⟨fun v h9 => v = some (.int (f_182 (Int32.toInt64 x0) 0 ((Int32.toInt64 (I 68 0)) - 1))) ∧ h9 = (N, am_ts T, I, L, am_rs r), s_182 ⟨rfl, rfl⟩, ?_⟩
  intro v h9 hv
  obtain ⟨rfl, rfl⟩ := hv
  refine am_E.run [] 2000 (show (((f_182 (Int32.toInt64 x0) 0 ((Int32.toInt64 (I 68 0)) - 1)) = 0 ∨ (f_182 (Int32.toInt64 x0) 0 ((Int32.toInt64 (I 68 0)) - 1)) = 1) ∧ Q (some (.int (f_182 (Int32.toInt64 x0) 0 ((Int32.toInt64 (I 68 0)) - 1)))) (N, am_ts T, I, L, am_rs r)) from ?_)
  exact ⟨b_182, hq⟩
theorem b_187 {x0 : Int32} {I : am_I} : (f_187 x0 I) = 0 ∨ (f_187 x0 I) = 1 := by
  unfold f_187
  (repeat' split) <;> first | exact Or.inl rfl | exact Or.inr rfl | exact b_182
/-- KeyKeepersModel.change(II)I -/
def w_188 (x0 : Int32) (x1 : Int32) (I : am_I) (K : Int32 → am_I → Prop) : Prop :=
  ¬ (x0 < 0 ∨ 5510 ≤ Int32.toNatClampNeg x0) ∧
  ¬ (x0 < 0 ∨ 5510 ≤ Int32.toNatClampNeg x0) ∧
  K (I 68 (Int32.toNatClampNeg x0)) (am_u (am_u I 68 (Int32.toNatClampNeg x0) x1) 66 1 0)
set_option maxRecDepth 100000 in
theorem s_188 {S : am_S} {d : Nat} {N : Nat} {T : Nat → Nat × Nat} {I : am_I} {L : am_J} {r : Nat → Nat → Option Nat} {Q : am_Q} {x0 : Int32} {x1 : Int32} {K : Int32 → am_I → Prop} (hw : w_188 x0 x1 I K) (hK : ∀ (q : Int32) (I1 : am_I), K q I1 → Q (some (.int q)) (N, am_ts T, I1, L, am_rs r)) : am_E S 188 (d + 0) 0 0 0 [.ref 66, .int x0, .int x1, am_jk] [] (N, am_ts T, I, L, am_rs r) Q := by
  unfold w_188 at hw
  try dsimp only at hw
  refine am_E.run [] 2000 (show (if x0 < 0 ∨ 5510 ≤ Int32.toNatClampNeg x0 then False else (if x0 < 0 ∨ 5510 ≤ Int32.toNatClampNeg x0 then False else (True ∧ Q (some (.int (I 68 (Int32.toNatClampNeg x0)))) (N, am_ts T, (am_u (am_u I 68 (Int32.toNatClampNeg x0) x1) 66 1 0), L, am_rs r)))) from ?_)
  refine am_ifn hw.1 ?_
  replace hw := hw.2
  refine am_ifn hw.1 ?_
  replace hw := hw.2
  exact ⟨trivial, hK _ _ hw⟩
/-- KeyKeepersModel.prisoner1(III)I -/
def w_190 (x0 : Int32) (x1 : Int32) (x2 : Int32) (I : am_I) (K : Int32 → am_I → Prop) : Prop :=
  if (f_182 (Int32.toInt64 x0) 1 99) = 0 then
    K (-1) I
  else
    if (f_182 (Int32.toInt64 x1) 0 9) = 0 then
      K (-1) I
    else
      if (f_182 (Int32.toInt64 x2) 1 9) = 0 then
        K (-1) I
      else
        if (I 68 1) = 8 then
          K (-5) I
        else
          ¬ ((26 + (I 68 1)) < 0 ∨ 5510 ≤ Int32.toNatClampNeg (26 + (I 68 1))) ∧
          ¬ ((34 + (I 68 1)) < 0 ∨ 5510 ≤ Int32.toNatClampNeg (34 + (I 68 1))) ∧
          ¬ ((10 + (I 68 1)) < 0 ∨ 5510 ≤ Int32.toNatClampNeg (10 + (I 68 1))) ∧
          ¬ ((18 + (I 68 1)) < 0 ∨ 5510 ≤ Int32.toNatClampNeg (18 + (I 68 1))) ∧
          ¬ ((42 + (I 68 1)) < 0 ∨ 5510 ≤ Int32.toNatClampNeg (42 + (I 68 1))) ∧
          ¬ ((50 + (I 68 1)) < 0 ∨ 5510 ≤ Int32.toNatClampNeg (50 + (I 68 1))) ∧
          K (I 68 1) (am_u (am_u (am_u (am_u (am_u (am_u (am_u I 68 (Int32.toNatClampNeg (26 + (I 68 1))) x0) 68 (Int32.toNatClampNeg (34 + (I 68 1))) x1) 68 (Int32.toNatClampNeg (10 + (I 68 1))) x2) 68 (Int32.toNatClampNeg (18 + (I 68 1))) 0) 68 (Int32.toNatClampNeg (42 + (I 68 1))) 0) 68 (Int32.toNatClampNeg (50 + (I 68 1))) 0) 68 1 (((am_u (am_u (am_u (am_u (am_u (am_u I 68 (Int32.toNatClampNeg (26 + (I 68 1))) x0) 68 (Int32.toNatClampNeg (34 + (I 68 1))) x1) 68 (Int32.toNatClampNeg (10 + (I 68 1))) x2) 68 (Int32.toNatClampNeg (18 + (I 68 1))) 0) 68 (Int32.toNatClampNeg (42 + (I 68 1))) 0) 68 (Int32.toNatClampNeg (50 + (I 68 1))) 0) 68 1) + 1))
set_option maxRecDepth 100000 in
theorem s_190 {S : am_S} {d : Nat} {N : Nat} {T : Nat → Nat × Nat} {I : am_I} {L : am_J} {r : Nat → Nat → Option Nat} {Q : am_Q} {x0 : Int32} {x1 : Int32} {x2 : Int32} {K : Int32 → am_I → Prop} (hw : w_190 x0 x1 x2 I K) (hK : ∀ (q : Int32) (I1 : am_I), K q I1 → Q (some (.int q)) (N, am_ts T, I1, L, am_rs r)) : am_E S 190 (d + 1) 0 0 0 [.ref 66, .int x0, .int x1, .int x2, am_jk] [] (N, am_ts T, I, L, am_rs r) Q := by
  unfold w_190 at hw
  try dsimp only at hw
  refine am_E.run [6] 2000 (show (am_E S 190 (d + 1) 0 0 6 [.ref 66, .int x0, .int x1, .int x2, am_jk] [.long 99, .long 1, .long (Int32.toInt64 x0)] (N, am_ts T, I, L, am_rs r) Q) from ?_)
  refine am_E.go ⟨fun v h9 => v = some (.int (f_182 (Int32.toInt64 x0) 1 99)) ∧ h9 = (N, am_ts T, I, L, am_rs r), s_182 ⟨rfl, rfl⟩, ?_⟩
  intro v h9 hv
  obtain ⟨rfl, rfl⟩ := hv
  refine am_E.run [18] 2000 (show (if (f_182 (Int32.toInt64 x0) 1 99) = 0 then (True ∧ Q (some (.int (-1))) (N, am_ts T, I, L, am_rs r)) else (am_E S 190 (d + 1) 0 0 18 [.ref 66, .int x0, .int x1, .int x2, am_jk] [.long 9, .long 0, .long (Int32.toInt64 x1)] (N, am_ts T, I, L, am_rs r) Q)) from ?_)
  by_cases hc : (f_182 (Int32.toInt64 x0) 1 99) = 0
  · rw [if_pos hc] at hw ⊢
    exact ⟨trivial, hK _ _ hw⟩
  · rw [if_neg hc] at hw ⊢
    refine am_E.go ⟨fun v h9 => v = some (.int (f_182 (Int32.toInt64 x1) 0 9)) ∧ h9 = (N, am_ts T, I, L, am_rs r), s_182 ⟨rfl, rfl⟩, ?_⟩
    intro v h9 hv
    obtain ⟨rfl, rfl⟩ := hv
    refine am_E.run [30] 2000 (show (if (f_182 (Int32.toInt64 x1) 0 9) = 0 then (True ∧ Q (some (.int (-1))) (N, am_ts T, I, L, am_rs r)) else (am_E S 190 (d + 1) 0 0 30 [.ref 66, .int x0, .int x1, .int x2, am_jk] [.long 9, .long 1, .long (Int32.toInt64 x2)] (N, am_ts T, I, L, am_rs r) Q)) from ?_)
    by_cases hc : (f_182 (Int32.toInt64 x1) 0 9) = 0
    · rw [if_pos hc] at hw ⊢
      exact ⟨trivial, hK _ _ hw⟩
    · rw [if_neg hc] at hw ⊢
      refine am_E.go ⟨fun v h9 => v = some (.int (f_182 (Int32.toInt64 x2) 1 9)) ∧ h9 = (N, am_ts T, I, L, am_rs r), s_182 ⟨rfl, rfl⟩, ?_⟩
      intro v h9 hv
      obtain ⟨rfl, rfl⟩ := hv
      refine am_E.run [] 2000 (show (if (f_182 (Int32.toInt64 x2) 1 9) = 0 then (True ∧ Q (some (.int (-1))) (N, am_ts T, I, L, am_rs r)) else (if (I 68 1) = 8 then (True ∧ Q (some (.int (-5))) (N, am_ts T, I, L, am_rs r)) else (if (26 + (I 68 1)) < 0 ∨ 5510 ≤ Int32.toNatClampNeg (26 + (I 68 1)) then False else (if (34 + (I 68 1)) < 0 ∨ 5510 ≤ Int32.toNatClampNeg (34 + (I 68 1)) then False else (if (10 + (I 68 1)) < 0 ∨ 5510 ≤ Int32.toNatClampNeg (10 + (I 68 1)) then False else (if (18 + (I 68 1)) < 0 ∨ 5510 ≤ Int32.toNatClampNeg (18 + (I 68 1)) then False else (if (42 + (I 68 1)) < 0 ∨ 5510 ≤ Int32.toNatClampNeg (42 + (I 68 1)) then False else (if (50 + (I 68 1)) < 0 ∨ 5510 ≤ Int32.toNatClampNeg (50 + (I 68 1)) then False else (True ∧ Q (some (.int (I 68 1))) (N, am_ts T, (am_u (am_u (am_u (am_u (am_u (am_u (am_u I 68 (Int32.toNatClampNeg (26 + (I 68 1))) x0) 68 (Int32.toNatClampNeg (34 + (I 68 1))) x1) 68 (Int32.toNatClampNeg (10 + (I 68 1))) x2) 68 (Int32.toNatClampNeg (18 + (I 68 1))) 0) 68 (Int32.toNatClampNeg (42 + (I 68 1))) 0) 68 (Int32.toNatClampNeg (50 + (I 68 1))) 0) 68 1 (((am_u (am_u (am_u (am_u (am_u (am_u I 68 (Int32.toNatClampNeg (26 + (I 68 1))) x0) 68 (Int32.toNatClampNeg (34 + (I 68 1))) x1) 68 (Int32.toNatClampNeg (10 + (I 68 1))) x2) 68 (Int32.toNatClampNeg (18 + (I 68 1))) 0) 68 (Int32.toNatClampNeg (42 + (I 68 1))) 0) 68 (Int32.toNatClampNeg (50 + (I 68 1))) 0) 68 1) + 1)), L, am_rs r)))))))))) from ?_)
      by_cases hc : (f_182 (Int32.toInt64 x2) 1 9) = 0
      · rw [if_pos hc] at hw ⊢
        exact ⟨trivial, hK _ _ hw⟩
      · rw [if_neg hc] at hw ⊢
        by_cases hc : (I 68 1) = 8
        · rw [if_pos hc] at hw ⊢
          exact ⟨trivial, hK _ _ hw⟩
        · rw [if_neg hc] at hw ⊢
          refine am_ifn hw.1 ?_
          replace hw := hw.2
          refine am_ifn hw.1 ?_
          replace hw := hw.2
          refine am_ifn hw.1 ?_
          replace hw := hw.2
          refine am_ifn hw.1 ?_
          replace hw := hw.2
          refine am_ifn hw.1 ?_
          replace hw := hw.2
          refine am_ifn hw.1 ?_
          replace hw := hw.2
          exact ⟨trivial, hK _ _ hw⟩
/-- KeyKeepersModel.isMan(I)Z -/
def f_192 (x0 : Int32) (I : am_I) : Int32 :=
  (f_182 (Int32.toInt64 x0) 0 ((Int32.toInt64 (I 68 1)) - 1))
set_option maxRecDepth 100000 in
theorem s_192 {S : am_S} {d : Nat} {N : Nat} {T : Nat → Nat × Nat} {I : am_I} {L : am_J} {r : Nat → Nat → Option Nat} {Q : am_Q} {x0 : Int32} (hq : Q (some (.int (f_192 x0 I))) (N, am_ts T, I, L, am_rs r)) : am_E S 192 (d + 1) 0 0 0 [.ref 66, .int x0] [] (N, am_ts T, I, L, am_rs r) Q := by
  unfold f_192 at hq
  try dsimp only at hq
  refine am_E.run [12] 2000 (show (am_E S 192 (d + 1) 0 0 12 [.ref 66, .int x0] [.long ((Int32.toInt64 (I 68 1)) - 1), .long 0, .long (Int32.toInt64 x0)] (N, am_ts T, I, L, am_rs r) Q) from ?_)
  refine am_E.go ⟨fun v h9 => v = some (.int (f_182 (Int32.toInt64 x0) 0 ((Int32.toInt64 (I 68 1)) - 1))) ∧ h9 = (N, am_ts T, I, L, am_rs r), s_182 ⟨rfl, rfl⟩, ?_⟩
  intro v h9 hv
  obtain ⟨rfl, rfl⟩ := hv
  refine am_E.run [] 2000 (show (((f_182 (Int32.toInt64 x0) 0 ((Int32.toInt64 (I 68 1)) - 1)) = 0 ∨ (f_182 (Int32.toInt64 x0) 0 ((Int32.toInt64 (I 68 1)) - 1)) = 1) ∧ Q (some (.int (f_182 (Int32.toInt64 x0) 0 ((Int32.toInt64 (I 68 1)) - 1)))) (N, am_ts T, I, L, am_rs r)) from ?_)
  exact ⟨b_182, hq⟩
theorem b_192 {x0 : Int32} {I : am_I} : (f_192 x0 I) = 0 ∨ (f_192 x0 I) = 1 := by
  unfold f_192
  (repeat' split) <;> first | exact Or.inl rfl | exact Or.inr rfl | exact b_182
