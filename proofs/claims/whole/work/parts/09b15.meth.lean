/-- KeyKeepers$Goings.look(LKeyKeepers$Prison;)I -/
def w_100 (T : Nat → Nat × Nat) (r : Nat → Nat → Option Nat) (I : am_I) (K : Int32 → am_I → Prop) : Prop :=
  if (I 1 10) = 0 then
    K (-3) I
  else
    w_86 6 T r I (fun q1 =>
      w_97 2 0 (I 1 18) 0 0 T r I (fun I2 =>
        K q1 (am_u I2 1 18 (f_101 (I2 1 18) q1 I2))))
set_option maxRecDepth 100000 in
theorem s_100 {S : am_S} {d : Nat} {N : Nat} {T : Nat → Nat × Nat} {I : am_I} {L : am_J} {r : Nat → Nat → Option Nat} {Q : am_Q} {K : Int32 → am_I → Prop} (hw : w_100 T r I K) (hK : ∀ (q : Int32) (I1 : am_I), K q I1 → Q (some (.int q)) (N, am_ts T, I1, L, am_rs r)) : am_E S 100 (d + 3) 0 0 0 [.ref 29, .ref 1, am_jk] [] (N, am_ts T, I, L, am_rs r) Q := by
  unfold w_100 at hw
  try dsimp only at hw
  refine am_E.run [15] 2000 (show (if (I 1 10) = 0 then (True ∧ Q (some (.int (-3))) (N, am_ts T, I, L, am_rs r)) else (am_E S 100 (d + 3) 0 0 15 [.ref 29, .ref 1, am_jk] [.ref 6, .ref 1] (N, am_ts T, I, L, am_rs r) Q)) from ?_)
  by_cases hc : (I 1 10) = 0
  · rw [if_pos hc] at hw ⊢
    exact ⟨trivial, hK _ _ hw⟩
  · rw [if_neg hc] at hw ⊢
    refine am_E.go ⟨am_ki_ N T I L r _, s_86 hw (fun q1 hk => ⟨q1, rfl, rfl, hk⟩), ?_⟩
    intro v h9 hv
    obtain ⟨q1, rfl, rfl, hw⟩ := hv
    try dsimp only at hw
    refine am_E.run [28] 2000 (show (am_E S 100 (d + 3) 0 0 28 [.ref 29, .ref 1, .int q1] [.int 0, .int 0, .int (I 1 18), .int 0, .int 2, .ref 29] (N, am_ts T, I, L, am_rs r) Q) from ?_)
    refine am_E.go ⟨am_kv_I N T L r _, s_97 hw (fun I2 hk => ⟨I2, rfl, rfl, hk⟩), ?_⟩
    intro v h9 hv
    obtain ⟨I2, rfl, rfl, hw⟩ := hv
    try dsimp only at hw
    refine am_E.run [38] 2000 (show (am_E S 100 (d + 3) 0 0 38 [.ref 29, .ref 1, .int q1] [.int q1, .int (I2 1 18), .ref 1, .ref 1] (N, am_ts T, I2, L, am_rs r) Q) from ?_)
    refine am_E.go ⟨fun v h9 => v = some (.int (f_101 (I2 1 18) q1 I2)) ∧ h9 = (N, am_ts T, I2, L, am_rs r), s_101 ⟨rfl, rfl⟩, ?_⟩
    intro v h9 hv
    obtain ⟨rfl, rfl⟩ := hv
    refine am_E.run [] 2000 (show (True ∧ Q (some (.int q1)) (N, am_ts T, (am_u I2 1 18 (f_101 (I2 1 18) q1 I2)), L, am_rs r)) from ?_)
    exact ⟨trivial, hK _ _ hw⟩
/-- KeyKeepers$Goings.hourOn(LKeyKeepers$Prison;)I -/
def w_102 (T : Nat → Nat × Nat) (r : Nat → Nat → Option Nat) (I : am_I) (K : Int32 → am_I → Prop) : Prop :=
  if (I 12 0) < 9999 then
    w_97 3 0 (I 12 0) 0 0 T r I (fun I1 =>
      K ((I 12 0) + 1) (am_u I1 12 0 ((I 12 0) + 1)))
  else
    K (-3) I
set_option maxRecDepth 100000 in
theorem s_102 {S : am_S} {d : Nat} {N : Nat} {T : Nat → Nat × Nat} {I : am_I} {L : am_J} {r : Nat → Nat → Option Nat} {Q : am_Q} {K : Int32 → am_I → Prop} (hw : w_102 T r I K) (hK : ∀ (q : Int32) (I1 : am_I), K q I1 → Q (some (.int q)) (N, am_ts T, I1, L, am_rs r)) : am_E S 102 (d + 3) 0 0 0 [.ref 29, .ref 1, am_jk] [] (N, am_ts T, I, L, am_rs r) Q := by
  unfold w_102 at hw
  try dsimp only at hw
  refine am_E.run [23] 2000 (show (if (I 12 0) < 9999 then (am_E S 102 (d + 3) 0 0 23 [.ref 29, .ref 1, .int (I 12 0)] [.int 0, .int 0, .int (I 12 0), .int 0, .int 3, .ref 29] (N, am_ts T, I, L, am_rs r) Q) else (True ∧ Q (some (.int (-3))) (N, am_ts T, I, L, am_rs r))) from ?_)
  by_cases hc : (I 12 0) < 9999
  · rw [if_pos hc] at hw ⊢
    refine am_E.go ⟨am_kv_I N T L r _, s_97 hw (fun I1 hk => ⟨I1, rfl, rfl, hk⟩), ?_⟩
    intro v h9 hv
    obtain ⟨I1, rfl, rfl, hw⟩ := hv
    try dsimp only at hw
    refine am_E.run [] 2000 (show (True ∧ Q (some (.int ((I 12 0) + 1))) (N, am_ts T, (am_u I1 12 0 ((I 12 0) + 1)), L, am_rs r)) from ?_)
    exact ⟨trivial, hK _ _ hw⟩
  · rw [if_neg hc] at hw ⊢
    exact ⟨trivial, hK _ _ hw⟩
/-- KeyKeepers.force(I)I -/
def w_105 (x0 : Int32) (I : am_I) (K : Int32 → am_I → Prop) : Prop :=
  if x0 = (-1) then
    w_16 (I 1 16) (am_u I 1 16 x0) (fun q1 I2 =>
      K q1 I2)
  else
    if (f_106 x0 I) = 0 then
      w_14 (-2) I (fun q5 I6 =>
        K q5 I6)
    else
      w_16 (I 1 16) (am_u I 1 16 x0) (fun q3 I4 =>
        K q3 I4)
set_option maxRecDepth 100000 in
theorem s_105 {S : am_S} {d : Nat} {N : Nat} {T : Nat → Nat × Nat} {I : am_I} {L : am_J} {r : Nat → Nat → Option Nat} {Q : am_Q} {x0 : Int32} {K : Int32 → am_I → Prop} (hw : w_105 x0 I K) (hK : ∀ (q : Int32) (I1 : am_I), K q I1 → Q (some (.int q)) (N, am_ts T, I1, L, am_rs r)) : am_E S 105 (d + 1) 0 0 0 [.ref 0, .int x0, am_jk] [] (N, am_ts T, I, L, am_rs r) Q := by
  unfold w_105 at hw
  try dsimp only at hw
  refine am_E.run [10, 41] 2000 (show (if x0 = (-1) then (am_E S 105 (d + 1) 0 0 41 [.ref 0, .int x0, .int (I 1 16)] [.int (I 1 16), .ref 0] (N, am_ts T, (am_u I 1 16 x0), L, am_rs r) Q) else (am_E S 105 (d + 1) 0 0 10 [.ref 0, .int x0, am_jk] [.int x0, .ref 1] (N, am_ts T, I, L, am_rs r) Q)) from ?_)
  by_cases hc : x0 = (-1)
  · rw [if_pos hc] at hw ⊢
    refine am_E.go ⟨am_ki_I N T L r _, s_16 hw (fun q1 I2 hk => ⟨q1, I2, rfl, rfl, hk⟩), ?_⟩
    intro v h9 hv
    obtain ⟨q1, I2, rfl, rfl, hw⟩ := hv
    try dsimp only at hw
    refine am_E.run [] 2000 (show (True ∧ Q (some (.int q1)) (N, am_ts T, I2, L, am_rs r)) from ?_)
    exact ⟨trivial, hK _ _ hw⟩
  · rw [if_neg hc] at hw ⊢
    refine am_E.go ⟨fun v h9 => v = some (.int (f_106 x0 I)) ∧ h9 = (N, am_ts T, I, L, am_rs r), s_106 ⟨rfl, rfl⟩, ?_⟩
    intro v h9 hv
    obtain ⟨rfl, rfl⟩ := hv
    refine am_E.run [19, 41] 2000 (show (if (f_106 x0 I) = 0 then (am_E S 105 (d + 1) 0 0 19 [.ref 0, .int x0, am_jk] [.int (-2), .ref 0] (N, am_ts T, I, L, am_rs r) Q) else (am_E S 105 (d + 1) 0 0 41 [.ref 0, .int x0, .int (I 1 16)] [.int (I 1 16), .ref 0] (N, am_ts T, (am_u I 1 16 x0), L, am_rs r) Q)) from ?_)
    by_cases hc : (f_106 x0 I) = 0
    · rw [if_pos hc] at hw ⊢
      refine am_E.go ⟨am_ki_I N T L r _, s_14 hw (fun q5 I6 hk => ⟨q5, I6, rfl, rfl, hk⟩), ?_⟩
      intro v h9 hv
      obtain ⟨q5, I6, rfl, rfl, hw⟩ := hv
      try dsimp only at hw
      refine am_E.run [] 2000 (show (True ∧ Q (some (.int q5)) (N, am_ts T, I6, L, am_rs r)) from ?_)
      exact ⟨trivial, hK _ _ hw⟩
    · rw [if_neg hc] at hw ⊢
      refine am_E.go ⟨am_ki_I N T L r _, s_16 hw (fun q3 I4 hk => ⟨q3, I4, rfl, rfl, hk⟩), ?_⟩
      intro v h9 hv
      obtain ⟨q3, I4, rfl, rfl, hw⟩ := hv
      try dsimp only at hw
      refine am_E.run [] 2000 (show (True ∧ Q (some (.int q3)) (N, am_ts T, I4, L, am_rs r)) from ?_)
      exact ⟨trivial, hK _ _ hw⟩
/-- KeyKeepers$Judge.setWords(LKeyKeepers$Prison;IIII)V -/
def w_110 (x1 : Int32) (x2 : Int32) (x3 : Int32) (x4 : Int32) (I : am_I) (K : am_I → Prop) : Prop :=
  ¬ (x1 < 0 ∨ 8 ≤ Int32.toNatClampNeg x1) ∧
  ¬ (x1 < 0 ∨ 8 ≤ Int32.toNatClampNeg x1) ∧
  ¬ (x1 < 0 ∨ 8 ≤ Int32.toNatClampNeg x1) ∧
  K (am_u (am_u (am_u (am_u (am_u (am_u (am_u (am_u (am_u (am_u I 25 0 x1) 25 1 (I 4 (Int32.toNatClampNeg x1))) 25 2 (I 5 (Int32.toNatClampNeg x1))) 25 3 (f_111 (I 7 (Int32.toNatClampNeg x1)))) 25 4 x2) 25 5 x3) 25 6 x4) 25 7 (I 12 0)) 25 8 (I 12 2)) 25 9 (I 12 3))
set_option maxRecDepth 100000 in
theorem s_110 {S : am_S} {d : Nat} {N : Nat} {T : Nat → Nat × Nat} {I : am_I} {L : am_J} {r : Nat → Nat → Option Nat} {Q : am_Q} {x1 : Int32} {x2 : Int32} {x3 : Int32} {x4 : Int32} {K : am_I → Prop} (hw : w_110 x1 x2 x3 x4 I K) (hK : ∀ (I1 : am_I), K I1 → Q (none) (N, am_ts T, I1, L, am_rs r)) : am_E S 110 (d + 1) 0 0 0 [.ref 23, .ref 1, .int x1, .int x2, .int x3, .int x4, am_jk] [] (N, am_ts T, I, L, am_rs r) Q := by
  unfold w_110 at hw
  try dsimp only at hw
  refine am_E.run [43] 2000 (show (if x1 < 0 ∨ 8 ≤ Int32.toNatClampNeg x1 then False else (if x1 < 0 ∨ 8 ≤ Int32.toNatClampNeg x1 then False else (if x1 < 0 ∨ 8 ≤ Int32.toNatClampNeg x1 then False else (am_E S 110 (d + 1) 0 0 43 [.ref 23, .ref 1, .int x1, .int x2, .int x3, .int x4, .ref 25] [.int (I 7 (Int32.toNatClampNeg x1)), .int 3, .ref 25] (N, am_ts T, (am_u (am_u (am_u I 25 0 x1) 25 1 (I 4 (Int32.toNatClampNeg x1))) 25 2 (I 5 (Int32.toNatClampNeg x1))), L, am_rs r) Q)))) from ?_)
  refine am_ifn hw.1 ?_
  replace hw := hw.2
  refine am_ifn hw.1 ?_
  replace hw := hw.2
  refine am_ifn hw.1 ?_
  replace hw := hw.2
  refine am_E.go ⟨fun v h9 => v = some (.int (f_111 (I 7 (Int32.toNatClampNeg x1)))) ∧ h9 = (N, am_ts T, (am_u (am_u (am_u I 25 0 x1) 25 1 (I 4 (Int32.toNatClampNeg x1))) 25 2 (I 5 (Int32.toNatClampNeg x1))), L, am_rs r), s_111 ⟨rfl, rfl⟩, ?_⟩
  intro v h9 hv
  obtain ⟨rfl, rfl⟩ := hv
  refine am_E.run [] 2000 (show (True ∧ Q (none) (N, am_ts T, (am_u (am_u (am_u (am_u (am_u (am_u (am_u (am_u (am_u (am_u I 25 0 x1) 25 1 (I 4 (Int32.toNatClampNeg x1))) 25 2 (I 5 (Int32.toNatClampNeg x1))) 25 3 (f_111 (I 7 (Int32.toNatClampNeg x1)))) 25 4 x2) 25 5 x3) 25 6 x4) 25 7 (I 12 0)) 25 8 (I 12 2)) 25 9 (I 12 3)), L, am_rs r)) from ?_)
  exact ⟨trivial, hK _ hw⟩
def lw_112s_15 : Nat → Nat → Int32 → Int32 → Int32 → (Nat → Nat × Nat) → (Nat → Nat → Option Nat) → am_I → (Int32 → am_I → Prop) → (Int32 → am_I → Prop) → Prop
  | 0, _, _, _, _, _, _, _, _, _ => False
  | n + 1, v2, v3, v4, v5, T, r, I, E0, R =>
    if v5 < 0 then
      E0 v5 I
    else
      ((am_ts T v2).1 = 11) ∧
      w_83 v2 v5 T r I (fun q1 =>
        if q1 = v3 then
          w_87 v2 v5 3 T r I (fun q2 I3 =>
            if q2 = 0 then
              lw_112s_15 n v2 v3 v4 (v5 + (-1)) T r I3 E0 R
            else
              if (I3 24 1) = 1 then
                w_87 v2 v5 0 T r I3 (fun q4 I5 =>
                  if q4 = 0 then
                    lw_112s_15 n v2 v3 v4 (v5 + (-1)) T r I5 E0 R
                  else
                    R (if (0 : Int32) < (if (I5 24 1) < (999 : Int32) then (I5 24 1) else (999 : Int32)) then (if (I5 24 1) < (999 : Int32) then (I5 24 1) else (999 : Int32)) else (0 : Int32)) I5)
              else
                lw_112s_15 n v2 v3 v4 (v5 + (-1)) T r I3 E0 R)
        else
          lw_112s_15 n v2 v3 v4 (v5 + (-1)) T r I E0 R)
set_option maxRecDepth 100000 in
theorem sl_112s_15 {S : am_S} {d : Nat} {Q : am_Q} {N : Nat} {T : Nat → Nat × Nat} {L : am_J} {r : Nat → Nat → Option Nat} {E0 : Int32 → am_I → Prop} {R : Int32 → am_I → Prop} : ∀ (n : Nat) {v2 : Nat} {v3 : Int32} {v4 : Int32} {v5 : Int32} {I : am_I}, lw_112s_15 n v2 v3 v4 v5 T r I E0 R → (∀ (o5 : Int32) (I1 : am_I), E0 o5 I1 → am_E S 112 (d + 2) 0 0 95 [.ref 23, .ref 1, .ref v2, .int v3, .int v4, .int o5] [] (N, am_ts T, I1, L, am_rs r) Q) → (∀ (q : Int32) (I1 : am_I), R q I1 → Q (some (.int q)) (N, am_ts T, I1, L, am_rs r)) → am_E S 112 (d + 2) 0 0 15 [.ref 23, .ref 1, .ref v2, .int v3, .int v4, .int v5] [] (N, am_ts T, I, L, am_rs r) Q
  | 0, _, _, _, _, _, hw, _, _ => hw.elim
  | n + 1, v2, v3, v4, v5, I, hw, hE0, hR => by
    have ih := @sl_112s_15 S d Q N T L r E0 R n
    unfold lw_112s_15 at hw
    try dsimp only at hw
    refine am_E.run [23, 95] 2000 (show (if v5 < 0 then (am_E S 112 (d + 2) 0 0 95 [.ref 23, .ref 1, .ref v2, .int v3, .int v4, .int v5] [] (N, am_ts T, I, L, am_rs r) Q) else (am_E S 112 (d + 2) 0 0 23 [.ref 23, .ref 1, .ref v2, .int v3, .int v4, .int v5] [.int v5, .ref v2] (N, am_ts T, I, L, am_rs r) Q)) from ?_)
    by_cases hc : v5 < 0
    · rw [if_pos hc] at hw ⊢
      exact hE0 _ _ hw
    · rw [if_neg hc] at hw ⊢
      refine am_E.go (show (if (List.length (List.take 1 [.int v5, .ref v2]) = 1 ∧ (am_ts T v2).1 = 11) then _ else False) from ?_)
      refine am_ifp ⟨rfl, hw.1⟩ ?_
      replace hw := hw.2
      refine ⟨am_ki_ N T I L r _, s_83 hw (fun q1 hk => ⟨q1, rfl, rfl, hk⟩), ?_⟩
      intro v h9 hv
      obtain ⟨q1, rfl, rfl, hw⟩ := hv
      try dsimp only at hw
      refine am_E.run [15, 39] 2000 (show (if q1 = v3 then (am_E S 112 (d + 2) 0 0 39 [.ref 23, .ref 1, .ref v2, .int v3, .int v4, .int v5] [.int 3, .int v5, .ref v2, .ref 1, .ref 24] (N, am_ts T, I, L, am_rs r) Q) else (am_E S 112 (d + 2) 0 0 15 [.ref 23, .ref 1, .ref v2, .int v3, .int v4, .int (v5 + (-1))] [] (N, am_ts T, I, L, am_rs r) Q)) from ?_)
      by_cases hc : q1 = v3
      · rw [if_pos hc] at hw ⊢
        refine am_E.go ⟨am_ki_I N T L r _, s_87 hw (fun q2 I3 hk => ⟨q2, I3, rfl, rfl, hk⟩), ?_⟩
        intro v h9 hv
        obtain ⟨q2, I3, rfl, rfl, hw⟩ := hv
        try dsimp only at hw
        refine am_E.run [15, 65] 2000 (show (if q2 = 0 then (am_E S 112 (d + 2) 0 0 15 [.ref 23, .ref 1, .ref v2, .int v3, .int v4, .int (v5 + (-1))] [] (N, am_ts T, I3, L, am_rs r) Q) else (if (I3 24 1) = 1 then (am_E S 112 (d + 2) 0 0 65 [.ref 23, .ref 1, .ref v2, .int v3, .int v4, .int v5] [.int 0, .int v5, .ref v2, .ref 1, .ref 24] (N, am_ts T, I3, L, am_rs r) Q) else (am_E S 112 (d + 2) 0 0 15 [.ref 23, .ref 1, .ref v2, .int v3, .int v4, .int (v5 + (-1))] [] (N, am_ts T, I3, L, am_rs r) Q))) from ?_)
        by_cases hc : q2 = 0
        · rw [if_pos hc] at hw ⊢
          exact ih hw hE0 hR
        · rw [if_neg hc] at hw ⊢
          by_cases hc : (I3 24 1) = 1
          · rw [if_pos hc] at hw ⊢
            refine am_E.go ⟨am_ki_I N T L r _, s_87 hw (fun q4 I5 hk => ⟨q4, I5, rfl, rfl, hk⟩), ?_⟩
            intro v h9 hv
            obtain ⟨q4, I5, rfl, rfl, hw⟩ := hv
            try dsimp only at hw
            refine am_E.run [15] 2000 (show (if q4 = 0 then (am_E S 112 (d + 2) 0 0 15 [.ref 23, .ref 1, .ref v2, .int v3, .int v4, .int (v5 + (-1))] [] (N, am_ts T, I5, L, am_rs r) Q) else (True ∧ Q (some (.int (if (0 : Int32) < (if (I5 24 1) < (999 : Int32) then (I5 24 1) else (999 : Int32)) then (if (I5 24 1) < (999 : Int32) then (I5 24 1) else (999 : Int32)) else (0 : Int32)))) (N, am_ts T, I5, L, am_rs r))) from ?_)
            by_cases hc : q4 = 0
            · rw [if_pos hc] at hw ⊢
              exact ih hw hE0 hR
            · rw [if_neg hc] at hw ⊢
              exact ⟨trivial, hR _ _ hw⟩
          · rw [if_neg hc] at hw ⊢
            exact ih hw hE0 hR
      · rw [if_neg hc] at hw ⊢
        exact ih hw hE0 hR
/-- KeyKeepers$Judge.told(LKeyKeepers$Prison;LKeyKeepers$Text;II)I -/
def w_112s (x1 : Nat) (x2 : Int32) (x3 : Int32) (T : Nat → Nat × Nat) (r : Nat → Nat → Option Nat) (I : am_I) (K : Int32 → am_I → Prop) : Prop :=
  ((am_ts T x1).1 = 11) ∧
  ∃ n15, lw_112s_15 n15 x1 x2 x3 ((I x1 2) - 1) T r I (fun o6 I7 =>
    K x3 I7) K
set_option maxRecDepth 100000 in
theorem s_112s {S : am_S} {d : Nat} {N : Nat} {T : Nat → Nat × Nat} {I : am_I} {L : am_J} {r : Nat → Nat → Option Nat} {Q : am_Q} {x1 : Nat} {x2 : Int32} {x3 : Int32} {K : Int32 → am_I → Prop} (hw : w_112s x1 x2 x3 T r I K) (hK : ∀ (q : Int32) (I1 : am_I), K q I1 → Q (some (.int q)) (N, am_ts T, I1, L, am_rs r)) : am_E S 112 (d + 2) 0 0 0 [.ref 23, .ref 1, .ref x1, .int x2, .int x3, am_jk] [] (N, am_ts T, I, L, am_rs r) Q := by
  unfold w_112s at hw
  try dsimp only at hw
  refine am_E.run [15] 2000 (show (if (am_ts T x1).1 = 11 ∧ 0 < 4 then (am_E S 112 (d + 2) 0 0 15 [.ref 23, .ref 1, .ref x1, .int x2, .int x3, .int ((I x1 2) - 1)] [] (N, am_ts T, I, L, am_rs r) Q) else False) from ?_)
  refine am_ifp ⟨hw.1, by decide⟩ ?_
  replace hw := hw.2
  obtain ⟨n15, hw⟩ := hw
  refine sl_112s_15 n15 hw (fun o6 I7 hw => ?_) hK
  · try dsimp only at hw
    refine am_E.run [] 2000 (show (True ∧ Q (some (.int x3)) (N, am_ts T, I7, L, am_rs r)) from ?_)
    exact ⟨trivial, hK _ _ hw⟩
/-- KeyKeepers$Judge.isBarred(LKeyKeepers$Prison;LKeyKeepers$Text;III)Z -/
def w_113n (x2 : Int32) (x3 : Int32) (x4 : Int32) (I : am_I) (K : Int32 → am_I → Prop) : Prop :=
  w_110 x2 x3 x4 (-1) I (fun I1 =>
    if (f_112n 3 (-1)) = (-1) then
      K 0 I1
    else
      K 1 I1)
set_option maxRecDepth 100000 in
theorem s_113n {S : am_S} {d : Nat} {N : Nat} {T : Nat → Nat × Nat} {I : am_I} {L : am_J} {r : Nat → Nat → Option Nat} {Q : am_Q} {x2 : Int32} {x3 : Int32} {x4 : Int32} {K : Int32 → am_I → Prop} (hw : w_113n x2 x3 x4 I K) (hK : ∀ (q : Int32) (I1 : am_I), K q I1 → Q (some (.int q)) (N, am_ts T, I1, L, am_rs r)) : am_E S 113 (d + 2) 0 0 0 [.ref 23, .ref 1, .null, .int x2, .int x3, .int x4] [] (N, am_ts T, I, L, am_rs r) Q := by
  unfold w_113n at hw
  try dsimp only at hw
  refine am_E.run [8] 2000 (show (am_E S 113 (d + 2) 0 0 8 [.ref 23, .ref 1, .null, .int x2, .int x3, .int x4] [.int (-1), .int x4, .int x3, .int x2, .ref 1, .ref 23] (N, am_ts T, I, L, am_rs r) Q) from ?_)
  refine am_E.go ⟨am_kv_I N T L r _, s_110 hw (fun I1 hk => ⟨I1, rfl, rfl, hk⟩), ?_⟩
  intro v h9 hv
  obtain ⟨I1, rfl, rfl, hw⟩ := hv
  try dsimp only at hw
  refine am_E.run [16] 2000 (show (am_E S 113 (d + 2) 0 0 16 [.ref 23, .ref 1, .null, .int x2, .int x3, .int x4] [.int (-1), .int 3, .null, .ref 1, .ref 23] (N, am_ts T, I1, L, am_rs r) Q) from ?_)
  refine am_E.go ⟨fun v h9 => v = some (.int (f_112n 3 (-1))) ∧ h9 = (N, am_ts T, I1, L, am_rs r), s_112n ⟨rfl, rfl⟩, ?_⟩
  intro v h9 hv
  obtain ⟨rfl, rfl⟩ := hv
  refine am_E.run [] 2000 (show (if (f_112n 3 (-1)) = (-1) then (((0 : Int32) = 0 ∨ (0 : Int32) = 1) ∧ Q (some (.int 0)) (N, am_ts T, I1, L, am_rs r)) else (((1 : Int32) = 0 ∨ (1 : Int32) = 1) ∧ Q (some (.int 1)) (N, am_ts T, I1, L, am_rs r))) from ?_)
  by_cases hc : (f_112n 3 (-1)) = (-1)
  · rw [if_pos hc] at hw ⊢
    exact ⟨Or.inl rfl, hK _ _ hw⟩
  · rw [if_neg hc] at hw ⊢
    exact ⟨Or.inr rfl, hK _ _ hw⟩
/-- KeyKeepers$Judge.isBarred(LKeyKeepers$Prison;LKeyKeepers$Text;III)Z -/
def w_113s (x1 : Nat) (x2 : Int32) (x3 : Int32) (x4 : Int32) (T : Nat → Nat × Nat) (r : Nat → Nat → Option Nat) (I : am_I) (K : Int32 → am_I → Prop) : Prop :=
  w_110 x2 x3 x4 (-1) I (fun I1 =>
    w_112s x1 3 (-1) T r I1 (fun q2 I3 =>
      if q2 = (-1) then
        K 0 I3
      else
        K 1 I3))
set_option maxRecDepth 100000 in
theorem s_113s {S : am_S} {d : Nat} {N : Nat} {T : Nat → Nat × Nat} {I : am_I} {L : am_J} {r : Nat → Nat → Option Nat} {Q : am_Q} {x1 : Nat} {x2 : Int32} {x3 : Int32} {x4 : Int32} {K : Int32 → am_I → Prop} (hw : w_113s x1 x2 x3 x4 T r I K) (hK : ∀ (q : Int32) (I1 : am_I), K q I1 → Q (some (.int q)) (N, am_ts T, I1, L, am_rs r)) : am_E S 113 (d + 3) 0 0 0 [.ref 23, .ref 1, .ref x1, .int x2, .int x3, .int x4] [] (N, am_ts T, I, L, am_rs r) Q := by
  unfold w_113s at hw
  try dsimp only at hw
  refine am_E.run [8] 2000 (show (am_E S 113 (d + 3) 0 0 8 [.ref 23, .ref 1, .ref x1, .int x2, .int x3, .int x4] [.int (-1), .int x4, .int x3, .int x2, .ref 1, .ref 23] (N, am_ts T, I, L, am_rs r) Q) from ?_)
  refine am_E.go ⟨am_kv_I N T L r _, s_110 hw (fun I1 hk => ⟨I1, rfl, rfl, hk⟩), ?_⟩
  intro v h9 hv
  obtain ⟨I1, rfl, rfl, hw⟩ := hv
  try dsimp only at hw
  refine am_E.run [16] 2000 (show (am_E S 113 (d + 3) 0 0 16 [.ref 23, .ref 1, .ref x1, .int x2, .int x3, .int x4] [.int (-1), .int 3, .ref x1, .ref 1, .ref 23] (N, am_ts T, I1, L, am_rs r) Q) from ?_)
  refine am_E.go ⟨am_ki_I N T L r _, s_112s hw (fun q2 I3 hk => ⟨q2, I3, rfl, rfl, hk⟩), ?_⟩
  intro v h9 hv
  obtain ⟨q2, I3, rfl, rfl, hw⟩ := hv
  try dsimp only at hw
  refine am_E.run [] 2000 (show (if q2 = (-1) then (((0 : Int32) = 0 ∨ (0 : Int32) = 1) ∧ Q (some (.int 0)) (N, am_ts T, I3, L, am_rs r)) else (((1 : Int32) = 0 ∨ (1 : Int32) = 1) ∧ Q (some (.int 1)) (N, am_ts T, I3, L, am_rs r))) from ?_)
  by_cases hc : q2 = (-1)
  · rw [if_pos hc] at hw ⊢
    exact ⟨Or.inl rfl, hK _ _ hw⟩
  · rw [if_neg hc] at hw ⊢
    exact ⟨Or.inr rfl, hK _ _ hw⟩
/-- KeyKeepers$Judge.gainOf(LKeyKeepers$Prison;LKeyKeepers$Text;II)I -/
def w_114n (x2 : Int32) (x3 : Int32) (I : am_I) (K : Int32 → am_I → Prop) : Prop :=
  w_110 x2 (-1) (-1) x3 I (fun I1 =>
    ¬ (x2 < 0 ∨ 8 ≤ Int32.toNatClampNeg x2) ∧
    K (f_112n 1 ((I1 5 (Int32.toNatClampNeg x2)) * 3)) I1)
set_option maxRecDepth 100000 in
theorem s_114n {S : am_S} {d : Nat} {N : Nat} {T : Nat → Nat × Nat} {I : am_I} {L : am_J} {r : Nat → Nat → Option Nat} {Q : am_Q} {x2 : Int32} {x3 : Int32} {K : Int32 → am_I → Prop} (hw : w_114n x2 x3 I K) (hK : ∀ (q : Int32) (I1 : am_I), K q I1 → Q (some (.int q)) (N, am_ts T, I1, L, am_rs r)) : am_E S 114 (d + 2) 0 0 0 [.ref 23, .ref 1, .null, .int x2, .int x3] [] (N, am_ts T, I, L, am_rs r) Q := by
  unfold w_114n at hw
  try dsimp only at hw
  refine am_E.run [7] 2000 (show (am_E S 114 (d + 2) 0 0 7 [.ref 23, .ref 1, .null, .int x2, .int x3] [.int x3, .int (-1), .int (-1), .int x2, .ref 1, .ref 23] (N, am_ts T, I, L, am_rs r) Q) from ?_)
  refine am_E.go ⟨am_kv_I N T L r _, s_110 hw (fun I1 hk => ⟨I1, rfl, rfl, hk⟩), ?_⟩
  intro v h9 hv
  obtain ⟨I1, rfl, rfl, hw⟩ := hv
  try dsimp only at hw
  refine am_E.run [22] 2000 (show (if x2 < 0 ∨ 8 ≤ Int32.toNatClampNeg x2 then False else (am_E S 114 (d + 2) 0 0 22 [.ref 23, .ref 1, .null, .int x2, .int x3] [.int ((I1 5 (Int32.toNatClampNeg x2)) * 3), .int 1, .null, .ref 1, .ref 23] (N, am_ts T, I1, L, am_rs r) Q)) from ?_)
  refine am_ifn hw.1 ?_
  replace hw := hw.2
  refine am_E.go ⟨fun v h9 => v = some (.int (f_112n 1 ((I1 5 (Int32.toNatClampNeg x2)) * 3))) ∧ h9 = (N, am_ts T, I1, L, am_rs r), s_112n ⟨rfl, rfl⟩, ?_⟩
  intro v h9 hv
  obtain ⟨rfl, rfl⟩ := hv
  refine am_E.run [] 2000 (show (True ∧ Q (some (.int (f_112n 1 ((I1 5 (Int32.toNatClampNeg x2)) * 3)))) (N, am_ts T, I1, L, am_rs r)) from ?_)
  exact ⟨trivial, hK _ _ hw⟩
/-- KeyKeepers$Judge.gainOf(LKeyKeepers$Prison;LKeyKeepers$Text;II)I -/
def w_114s (x1 : Nat) (x2 : Int32) (x3 : Int32) (T : Nat → Nat × Nat) (r : Nat → Nat → Option Nat) (I : am_I) (K : Int32 → am_I → Prop) : Prop :=
  w_110 x2 (-1) (-1) x3 I (fun I1 =>
    ¬ (x2 < 0 ∨ 8 ≤ Int32.toNatClampNeg x2) ∧
    w_112s x1 1 ((I1 5 (Int32.toNatClampNeg x2)) * 3) T r I1 (fun q2 I3 =>
      K q2 I3))
set_option maxRecDepth 100000 in
theorem s_114s {S : am_S} {d : Nat} {N : Nat} {T : Nat → Nat × Nat} {I : am_I} {L : am_J} {r : Nat → Nat → Option Nat} {Q : am_Q} {x1 : Nat} {x2 : Int32} {x3 : Int32} {K : Int32 → am_I → Prop} (hw : w_114s x1 x2 x3 T r I K) (hK : ∀ (q : Int32) (I1 : am_I), K q I1 → Q (some (.int q)) (N, am_ts T, I1, L, am_rs r)) : am_E S 114 (d + 3) 0 0 0 [.ref 23, .ref 1, .ref x1, .int x2, .int x3] [] (N, am_ts T, I, L, am_rs r) Q := by
  unfold w_114s at hw
  try dsimp only at hw
  refine am_E.run [7] 2000 (show (am_E S 114 (d + 3) 0 0 7 [.ref 23, .ref 1, .ref x1, .int x2, .int x3] [.int x3, .int (-1), .int (-1), .int x2, .ref 1, .ref 23] (N, am_ts T, I, L, am_rs r) Q) from ?_)
  refine am_E.go ⟨am_kv_I N T L r _, s_110 hw (fun I1 hk => ⟨I1, rfl, rfl, hk⟩), ?_⟩
  intro v h9 hv
  obtain ⟨I1, rfl, rfl, hw⟩ := hv
  try dsimp only at hw
  refine am_E.run [22] 2000 (show (if x2 < 0 ∨ 8 ≤ Int32.toNatClampNeg x2 then False else (am_E S 114 (d + 3) 0 0 22 [.ref 23, .ref 1, .ref x1, .int x2, .int x3] [.int ((I1 5 (Int32.toNatClampNeg x2)) * 3), .int 1, .ref x1, .ref 1, .ref 23] (N, am_ts T, I1, L, am_rs r) Q)) from ?_)
  refine am_ifn hw.1 ?_
  replace hw := hw.2
  refine am_E.go ⟨am_ki_I N T L r _, s_112s hw (fun q2 I3 hk => ⟨q2, I3, rfl, rfl, hk⟩), ?_⟩
  intro v h9 hv
  obtain ⟨q2, I3, rfl, rfl, hw⟩ := hv
  try dsimp only at hw
  refine am_E.run [] 2000 (show (True ∧ Q (some (.int q2)) (N, am_ts T, I3, L, am_rs r)) from ?_)
  exact ⟨trivial, hK _ _ hw⟩
/-- KeyKeepers$Judge.fineOf(LKeyKeepers$Prison;LKeyKeepers$Text;II)I -/
def w_115n (x2 : Int32) (x3 : Int32) (I : am_I) (K : Int32 → am_I → Prop) : Prop :=
  w_110 x2 (-1) (-1) x3 I (fun I1 =>
    ¬ (x2 < 0 ∨ 8 ≤ Int32.toNatClampNeg x2) ∧
    K (f_112n 2 (I1 4 (Int32.toNatClampNeg x2))) I1)
set_option maxRecDepth 100000 in
theorem s_115n {S : am_S} {d : Nat} {N : Nat} {T : Nat → Nat × Nat} {I : am_I} {L : am_J} {r : Nat → Nat → Option Nat} {Q : am_Q} {x2 : Int32} {x3 : Int32} {K : Int32 → am_I → Prop} (hw : w_115n x2 x3 I K) (hK : ∀ (q : Int32) (I1 : am_I), K q I1 → Q (some (.int q)) (N, am_ts T, I1, L, am_rs r)) : am_E S 115 (d + 2) 0 0 0 [.ref 23, .ref 1, .null, .int x2, .int x3] [] (N, am_ts T, I, L, am_rs r) Q := by
  unfold w_115n at hw
  try dsimp only at hw
  refine am_E.run [7] 2000 (show (am_E S 115 (d + 2) 0 0 7 [.ref 23, .ref 1, .null, .int x2, .int x3] [.int x3, .int (-1), .int (-1), .int x2, .ref 1, .ref 23] (N, am_ts T, I, L, am_rs r) Q) from ?_)
  refine am_E.go ⟨am_kv_I N T L r _, s_110 hw (fun I1 hk => ⟨I1, rfl, rfl, hk⟩), ?_⟩
  intro v h9 hv
  obtain ⟨I1, rfl, rfl, hw⟩ := hv
  try dsimp only at hw
  refine am_E.run [20] 2000 (show (if x2 < 0 ∨ 8 ≤ Int32.toNatClampNeg x2 then False else (am_E S 115 (d + 2) 0 0 20 [.ref 23, .ref 1, .null, .int x2, .int x3] [.int (I1 4 (Int32.toNatClampNeg x2)), .int 2, .null, .ref 1, .ref 23] (N, am_ts T, I1, L, am_rs r) Q)) from ?_)
  refine am_ifn hw.1 ?_
  replace hw := hw.2
  refine am_E.go ⟨fun v h9 => v = some (.int (f_112n 2 (I1 4 (Int32.toNatClampNeg x2)))) ∧ h9 = (N, am_ts T, I1, L, am_rs r), s_112n ⟨rfl, rfl⟩, ?_⟩
  intro v h9 hv
  obtain ⟨rfl, rfl⟩ := hv
  refine am_E.run [] 2000 (show (True ∧ Q (some (.int (f_112n 2 (I1 4 (Int32.toNatClampNeg x2))))) (N, am_ts T, I1, L, am_rs r)) from ?_)
  exact ⟨trivial, hK _ _ hw⟩
/-- KeyKeepers$Judge.fineOf(LKeyKeepers$Prison;LKeyKeepers$Text;II)I -/
def w_115s (x1 : Nat) (x2 : Int32) (x3 : Int32) (T : Nat → Nat × Nat) (r : Nat → Nat → Option Nat) (I : am_I) (K : Int32 → am_I → Prop) : Prop :=
  w_110 x2 (-1) (-1) x3 I (fun I1 =>
    ¬ (x2 < 0 ∨ 8 ≤ Int32.toNatClampNeg x2) ∧
    w_112s x1 2 (I1 4 (Int32.toNatClampNeg x2)) T r I1 (fun q2 I3 =>
      K q2 I3))
set_option maxRecDepth 100000 in
theorem s_115s {S : am_S} {d : Nat} {N : Nat} {T : Nat → Nat × Nat} {I : am_I} {L : am_J} {r : Nat → Nat → Option Nat} {Q : am_Q} {x1 : Nat} {x2 : Int32} {x3 : Int32} {K : Int32 → am_I → Prop} (hw : w_115s x1 x2 x3 T r I K) (hK : ∀ (q : Int32) (I1 : am_I), K q I1 → Q (some (.int q)) (N, am_ts T, I1, L, am_rs r)) : am_E S 115 (d + 3) 0 0 0 [.ref 23, .ref 1, .ref x1, .int x2, .int x3] [] (N, am_ts T, I, L, am_rs r) Q := by
  unfold w_115s at hw
  try dsimp only at hw
  refine am_E.run [7] 2000 (show (am_E S 115 (d + 3) 0 0 7 [.ref 23, .ref 1, .ref x1, .int x2, .int x3] [.int x3, .int (-1), .int (-1), .int x2, .ref 1, .ref 23] (N, am_ts T, I, L, am_rs r) Q) from ?_)
  refine am_E.go ⟨am_kv_I N T L r _, s_110 hw (fun I1 hk => ⟨I1, rfl, rfl, hk⟩), ?_⟩
  intro v h9 hv
  obtain ⟨I1, rfl, rfl, hw⟩ := hv
  try dsimp only at hw
  refine am_E.run [20] 2000 (show (if x2 < 0 ∨ 8 ≤ Int32.toNatClampNeg x2 then False else (am_E S 115 (d + 3) 0 0 20 [.ref 23, .ref 1, .ref x1, .int x2, .int x3] [.int (I1 4 (Int32.toNatClampNeg x2)), .int 2, .ref x1, .ref 1, .ref 23] (N, am_ts T, I1, L, am_rs r) Q)) from ?_)
  refine am_ifn hw.1 ?_
  replace hw := hw.2
  refine am_E.go ⟨am_ki_I N T L r _, s_112s hw (fun q2 I3 hk => ⟨q2, I3, rfl, rfl, hk⟩), ?_⟩
  intro v h9 hv
  obtain ⟨q2, I3, rfl, rfl, hw⟩ := hv
  try dsimp only at hw
  refine am_E.run [] 2000 (show (True ∧ Q (some (.int q2)) (N, am_ts T, I3, L, am_rs r)) from ?_)
  exact ⟨trivial, hK _ _ hw⟩
/-- KeyKeepers$Judge.staysOut(LKeyKeepers$Prison;LKeyKeepers$Text;II)Z -/
def w_116n (x2 : Int32) (x3 : Int32) (I : am_I) (K : Int32 → am_I → Prop) : Prop :=
  w_114n x2 x3 I (fun q1 I2 =>
    w_115n x2 x3 I2 (fun q3 I4 =>
      if (10 * q1) ≤ ((I2 12 2) * q3) then
        K 0 I4
      else
        K 1 I4))
set_option maxRecDepth 100000 in
theorem s_116n {S : am_S} {d : Nat} {N : Nat} {T : Nat → Nat × Nat} {I : am_I} {L : am_J} {r : Nat → Nat → Option Nat} {Q : am_Q} {x2 : Int32} {x3 : Int32} {K : Int32 → am_I → Prop} (hw : w_116n x2 x3 I K) (hK : ∀ (q : Int32) (I1 : am_I), K q I1 → Q (some (.int q)) (N, am_ts T, I1, L, am_rs r)) : am_E S 116 (d + 3) 0 0 0 [.ref 23, .ref 1, .null, .int x2, .int x3, am_jk] [] (N, am_ts T, I, L, am_rs r) Q := by
  unfold w_116n at hw
  try dsimp only at hw
  refine am_E.run [6] 2000 (show (am_E S 116 (d + 3) 0 0 6 [.ref 23, .ref 1, .null, .int x2, .int x3, am_jk] [.int x3, .int x2, .null, .ref 1, .ref 23] (N, am_ts T, I, L, am_rs r) Q) from ?_)
  refine am_E.go ⟨am_ki_I N T L r _, s_114n hw (fun q1 I2 hk => ⟨q1, I2, rfl, rfl, hk⟩), ?_⟩
  intro v h9 hv
  obtain ⟨q1, I2, rfl, rfl, hw⟩ := hv
  try dsimp only at hw
  refine am_E.run [28] 2000 (show (am_E S 116 (d + 3) 0 0 28 [.ref 23, .ref 1, .null, .int x2, .int x3, .int q1] [.int x3, .int x2, .null, .ref 1, .ref 23, .int (I2 12 2), .int (10 * q1)] (N, am_ts T, I2, L, am_rs r) Q) from ?_)
  refine am_E.go ⟨am_ki_I N T L r _, s_115n hw (fun q3 I4 hk => ⟨q3, I4, rfl, rfl, hk⟩), ?_⟩
  intro v h9 hv
  obtain ⟨q3, I4, rfl, rfl, hw⟩ := hv
  try dsimp only at hw
  refine am_E.run [] 2000 (show (if (10 * q1) ≤ ((I2 12 2) * q3) then (((0 : Int32) = 0 ∨ (0 : Int32) = 1) ∧ Q (some (.int 0)) (N, am_ts T, I4, L, am_rs r)) else (((1 : Int32) = 0 ∨ (1 : Int32) = 1) ∧ Q (some (.int 1)) (N, am_ts T, I4, L, am_rs r))) from ?_)
  by_cases hc : (10 * q1) ≤ ((I2 12 2) * q3)
  · rw [if_pos hc] at hw ⊢
    exact ⟨Or.inl rfl, hK _ _ hw⟩
  · rw [if_neg hc] at hw ⊢
    exact ⟨Or.inr rfl, hK _ _ hw⟩
/-- KeyKeepers$Judge.staysOut(LKeyKeepers$Prison;LKeyKeepers$Text;II)Z -/
def w_116s (x1 : Nat) (x2 : Int32) (x3 : Int32) (T : Nat → Nat × Nat) (r : Nat → Nat → Option Nat) (I : am_I) (K : Int32 → am_I → Prop) : Prop :=
  w_114s x1 x2 x3 T r I (fun q1 I2 =>
    w_115s x1 x2 x3 T r I2 (fun q3 I4 =>
      if (10 * q1) ≤ ((I2 12 2) * q3) then
        K 0 I4
      else
        K 1 I4))
set_option maxRecDepth 100000 in
theorem s_116s {S : am_S} {d : Nat} {N : Nat} {T : Nat → Nat × Nat} {I : am_I} {L : am_J} {r : Nat → Nat → Option Nat} {Q : am_Q} {x1 : Nat} {x2 : Int32} {x3 : Int32} {K : Int32 → am_I → Prop} (hw : w_116s x1 x2 x3 T r I K) (hK : ∀ (q : Int32) (I1 : am_I), K q I1 → Q (some (.int q)) (N, am_ts T, I1, L, am_rs r)) : am_E S 116 (d + 4) 0 0 0 [.ref 23, .ref 1, .ref x1, .int x2, .int x3, am_jk] [] (N, am_ts T, I, L, am_rs r) Q := by
  unfold w_116s at hw
  try dsimp only at hw
  refine am_E.run [6] 2000 (show (am_E S 116 (d + 4) 0 0 6 [.ref 23, .ref 1, .ref x1, .int x2, .int x3, am_jk] [.int x3, .int x2, .ref x1, .ref 1, .ref 23] (N, am_ts T, I, L, am_rs r) Q) from ?_)
  refine am_E.go ⟨am_ki_I N T L r _, s_114s hw (fun q1 I2 hk => ⟨q1, I2, rfl, rfl, hk⟩), ?_⟩
  intro v h9 hv
  obtain ⟨q1, I2, rfl, rfl, hw⟩ := hv
  try dsimp only at hw
  refine am_E.run [28] 2000 (show (am_E S 116 (d + 4) 0 0 28 [.ref 23, .ref 1, .ref x1, .int x2, .int x3, .int q1] [.int x3, .int x2, .ref x1, .ref 1, .ref 23, .int (I2 12 2), .int (10 * q1)] (N, am_ts T, I2, L, am_rs r) Q) from ?_)
  refine am_E.go ⟨am_ki_I N T L r _, s_115s hw (fun q3 I4 hk => ⟨q3, I4, rfl, rfl, hk⟩), ?_⟩
  intro v h9 hv
  obtain ⟨q3, I4, rfl, rfl, hw⟩ := hv
  try dsimp only at hw
  refine am_E.run [] 2000 (show (if (10 * q1) ≤ ((I2 12 2) * q3) then (((0 : Int32) = 0 ∨ (0 : Int32) = 1) ∧ Q (some (.int 0)) (N, am_ts T, I4, L, am_rs r)) else (((1 : Int32) = 0 ∨ (1 : Int32) = 1) ∧ Q (some (.int 1)) (N, am_ts T, I4, L, am_rs r))) from ?_)
  by_cases hc : (10 * q1) ≤ ((I2 12 2) * q3)
  · rw [if_pos hc] at hw ⊢
    exact ⟨Or.inl rfl, hK _ _ hw⟩
  · rw [if_neg hc] at hw ⊢
    exact ⟨Or.inr rfl, hK _ _ hw⟩
/-- KeyKeepers.give(III)I -/
def w_119 (x0 : Int32) (x1 : Int32) (x2 : Int32) (T : Nat → Nat × Nat) (r : Nat → Nat → Option Nat) (I : am_I) (K : Int32 → am_I → Prop) : Prop :=
  w_99 x0 x1 x2 T r I (fun q1 I2 =>
    w_118 q1 I2 (fun q3 I4 =>
      K q3 I4))
set_option maxRecDepth 100000 in
theorem s_119 {S : am_S} {d : Nat} {N : Nat} {T : Nat → Nat × Nat} {I : am_I} {L : am_J} {r : Nat → Nat → Option Nat} {Q : am_Q} {x0 : Int32} {x1 : Int32} {x2 : Int32} {K : Int32 → am_I → Prop} (hw : w_119 x0 x1 x2 T r I K) (hK : ∀ (q : Int32) (I1 : am_I), K q I1 → Q (some (.int q)) (N, am_ts T, I1, L, am_rs r)) : am_E S 119 (d + 4) 0 0 0 [.ref 0, .int x0, .int x1, .int x2] [] (N, am_ts T, I, L, am_rs r) Q := by
  unfold w_119 at hw
  try dsimp only at hw
  refine am_E.run [12] 2000 (show (am_E S 119 (d + 4) 0 0 12 [.ref 0, .int x0, .int x1, .int x2] [.int x2, .int x1, .int x0, .ref 1, .ref 29, .ref 0] (N, am_ts T, I, L, am_rs r) Q) from ?_)
  refine am_E.go ⟨am_ki_I N T L r _, s_99 hw (fun q1 I2 hk => ⟨q1, I2, rfl, rfl, hk⟩), ?_⟩
  intro v h9 hv
  obtain ⟨q1, I2, rfl, rfl, hw⟩ := hv
  try dsimp only at hw
  show (am_E S 119 (d + 4) 0 0 15 [.ref 0, .int x0, .int x1, .int x2] [.int q1, .ref 0] (N, am_ts T, I2, L, am_rs r) Q)
  refine am_E.go ⟨am_ki_I N T L r _, s_118 hw (fun q3 I4 hk => ⟨q3, I4, rfl, rfl, hk⟩), ?_⟩
  intro v h9 hv
  obtain ⟨q3, I4, rfl, rfl, hw⟩ := hv
  try dsimp only at hw
  refine am_E.run [] 2000 (show (True ∧ Q (some (.int q3)) (N, am_ts T, I4, L, am_rs r)) from ?_)
  exact ⟨trivial, hK _ _ hw⟩
/-- KeyKeepers.inspect()I -/
def w_120 (T : Nat → Nat × Nat) (r : Nat → Nat → Option Nat) (I : am_I) (K : Int32 → am_I → Prop) : Prop :=
  w_100 T r I (fun q1 I2 =>
    w_118 q1 I2 (fun q3 I4 =>
      K q3 I4))
set_option maxRecDepth 100000 in
theorem s_120 {S : am_S} {d : Nat} {N : Nat} {T : Nat → Nat × Nat} {I : am_I} {L : am_J} {r : Nat → Nat → Option Nat} {Q : am_Q} {K : Int32 → am_I → Prop} (hw : w_120 T r I K) (hK : ∀ (q : Int32) (I1 : am_I), K q I1 → Q (some (.int q)) (N, am_ts T, I1, L, am_rs r)) : am_E S 120 (d + 4) 0 0 0 [.ref 0] [] (N, am_ts T, I, L, am_rs r) Q := by
  unfold w_120 at hw
  try dsimp only at hw
  refine am_E.run [9] 2000 (show (am_E S 120 (d + 4) 0 0 9 [.ref 0] [.ref 1, .ref 29, .ref 0] (N, am_ts T, I, L, am_rs r) Q) from ?_)
  refine am_E.go ⟨am_ki_I N T L r _, s_100 hw (fun q1 I2 hk => ⟨q1, I2, rfl, rfl, hk⟩), ?_⟩
  intro v h9 hv
  obtain ⟨q1, I2, rfl, rfl, hw⟩ := hv
  try dsimp only at hw
  show (am_E S 120 (d + 4) 0 0 12 [.ref 0] [.int q1, .ref 0] (N, am_ts T, I2, L, am_rs r) Q)
  refine am_E.go ⟨am_ki_I N T L r _, s_118 hw (fun q3 I4 hk => ⟨q3, I4, rfl, rfl, hk⟩), ?_⟩
  intro v h9 hv
  obtain ⟨q3, I4, rfl, rfl, hw⟩ := hv
  try dsimp only at hw
  refine am_E.run [] 2000 (show (True ∧ Q (some (.int q3)) (N, am_ts T, I4, L, am_rs r)) from ?_)
  exact ⟨trivial, hK _ _ hw⟩
/-- KeyKeepers.pass()I -/
def w_121 (T : Nat → Nat × Nat) (r : Nat → Nat → Option Nat) (I : am_I) (K : Int32 → am_I → Prop) : Prop :=
  w_102 T r I (fun q1 I2 =>
    w_118 q1 I2 (fun q3 I4 =>
      K q3 I4))
set_option maxRecDepth 100000 in
theorem s_121 {S : am_S} {d : Nat} {N : Nat} {T : Nat → Nat × Nat} {I : am_I} {L : am_J} {r : Nat → Nat → Option Nat} {Q : am_Q} {K : Int32 → am_I → Prop} (hw : w_121 T r I K) (hK : ∀ (q : Int32) (I1 : am_I), K q I1 → Q (some (.int q)) (N, am_ts T, I1, L, am_rs r)) : am_E S 121 (d + 4) 0 0 0 [.ref 0] [] (N, am_ts T, I, L, am_rs r) Q := by
  unfold w_121 at hw
  try dsimp only at hw
  refine am_E.run [9] 2000 (show (am_E S 121 (d + 4) 0 0 9 [.ref 0] [.ref 1, .ref 29, .ref 0] (N, am_ts T, I, L, am_rs r) Q) from ?_)
  refine am_E.go ⟨am_ki_I N T L r _, s_102 hw (fun q1 I2 hk => ⟨q1, I2, rfl, rfl, hk⟩), ?_⟩
  intro v h9 hv
  obtain ⟨q1, I2, rfl, rfl, hw⟩ := hv
  try dsimp only at hw
  show (am_E S 121 (d + 4) 0 0 12 [.ref 0] [.int q1, .ref 0] (N, am_ts T, I2, L, am_rs r) Q)
  refine am_E.go ⟨am_ki_I N T L r _, s_118 hw (fun q3 I4 hk => ⟨q3, I4, rfl, rfl, hk⟩), ?_⟩
  intro v h9 hv
  obtain ⟨q3, I4, rfl, rfl, hw⟩ := hv
  try dsimp only at hw
  refine am_E.run [] 2000 (show (True ∧ Q (some (.int q3)) (N, am_ts T, I4, L, am_rs r)) from ?_)
  exact ⟨trivial, hK _ _ hw⟩
/-- KeyKeepers.undo()I -/
def w_122 (I : am_I) (K : Int32 → am_I → Prop) : Prop :=
  w_123 I (fun q1 I2 =>
    w_118 q1 I2 (fun q3 I4 =>
      K q3 I4))
set_option maxRecDepth 100000 in
theorem s_122 {S : am_S} {d : Nat} {N : Nat} {T : Nat → Nat × Nat} {I : am_I} {L : am_J} {r : Nat → Nat → Option Nat} {Q : am_Q} {K : Int32 → am_I → Prop} (hw : w_122 I K) (hK : ∀ (q : Int32) (I1 : am_I), K q I1 → Q (some (.int q)) (N, am_ts T, I1, L, am_rs r)) : am_E S 122 (d + 2) 0 0 0 [.ref 0] [] (N, am_ts T, I, L, am_rs r) Q := by
  unfold w_122 at hw
  try dsimp only at hw
  refine am_E.run [9] 2000 (show (am_E S 122 (d + 2) 0 0 9 [.ref 0] [.ref 1, .ref 29, .ref 0] (N, am_ts T, I, L, am_rs r) Q) from ?_)
  refine am_E.go ⟨am_ki_I N T L r _, s_123 hw (fun q1 I2 hk => ⟨q1, I2, rfl, rfl, hk⟩), ?_⟩
  intro v h9 hv
  obtain ⟨q1, I2, rfl, rfl, hw⟩ := hv
  try dsimp only at hw
  show (am_E S 122 (d + 2) 0 0 12 [.ref 0] [.int q1, .ref 0] (N, am_ts T, I2, L, am_rs r) Q)
  refine am_E.go ⟨am_ki_I N T L r _, s_118 hw (fun q3 I4 hk => ⟨q3, I4, rfl, rfl, hk⟩), ?_⟩
  intro v h9 hv
  obtain ⟨q3, I4, rfl, rfl, hw⟩ := hv
  try dsimp only at hw
  refine am_E.run [] 2000 (show (True ∧ Q (some (.int q3)) (N, am_ts T, I4, L, am_rs r)) from ?_)
  exact ⟨trivial, hK _ _ hw⟩
def lw_126_19 : Nat → Int32 → Int32 → Int32 → am_I → (Int32 → Int32 → Prop) → (Int32 → Prop) → Prop
  | 0, _, _, _, _, _, _ => False
  | n + 1, v3, v4, v5, I, E0, R =>
    if (10 : Int32) ≤ v5 then
      E0 v4 v5
    else
      if (f_20 v4 0) = 1 then
        R v5
      else
        w_128 v3 v4 I (fun q2 =>
          lw_126_19 n v3 q2 (v5 + 1) I E0 R)
set_option maxRecDepth 100000 in
theorem sl_126_19 {S : am_S} {d : Nat} {Q : am_Q} {N : Nat} {T : Nat → Nat × Nat} {I : am_I} {L : am_J} {r : Nat → Nat → Option Nat} {E0 : Int32 → Int32 → Prop} {R : Int32 → Prop} : ∀ (n : Nat) {v3 : Int32} {v4 : Int32} {v5 : Int32}, lw_126_19 n v3 v4 v5 I E0 R → (∀ (o4 : Int32) (o5 : Int32), E0 o4 o5 → am_E S 126 (d + 2) 0 0 54 [am_jk, .ref 1, am_jk, .int v3, .int o4, .int o5] [] (N, am_ts T, I, L, am_rs r) Q) → (∀ (q : Int32), R q → Q (some (.int q)) (N, am_ts T, I, L, am_rs r)) → am_E S 126 (d + 2) 0 0 19 [am_jk, .ref 1, am_jk, .int v3, .int v4, .int v5] [] (N, am_ts T, I, L, am_rs r) Q
  | 0, _, _, _, hw, _, _ => hw.elim
  | n + 1, v3, v4, v5, hw, hE0, hR => by
    have ih := @sl_126_19 S d Q N T I L r E0 R n
    unfold lw_126_19 at hw
    try dsimp only at hw
    refine am_E.run [29, 54] 2000 (show (if (10 : Int32) ≤ v5 then (am_E S 126 (d + 2) 0 0 54 [am_jk, .ref 1, am_jk, .int v3, .int v4, .int v5] [] (N, am_ts T, I, L, am_rs r) Q) else (am_E S 126 (d + 2) 0 0 29 [am_jk, .ref 1, am_jk, .int v3, .int v4, .int v5] [.int 0, .int v4] (N, am_ts T, I, L, am_rs r) Q)) from ?_)
    by_cases hc : (10 : Int32) ≤ v5
    · rw [if_pos hc] at hw ⊢
      exact hE0 _ _ hw
    · rw [if_neg hc] at hw ⊢
      refine am_E.go ⟨fun v h9 => v = some (.int (f_20 v4 0)) ∧ h9 = (N, am_ts T, I, L, am_rs r), s_20 ⟨rfl, rfl⟩, ?_⟩
      intro v h9 hv
      obtain ⟨rfl, rfl⟩ := hv
      refine am_E.run [43] 2000 (show (if (f_20 v4 0) = 1 then (True ∧ Q (some (.int v5)) (N, am_ts T, I, L, am_rs r)) else (am_E S 126 (d + 2) 0 0 43 [am_jk, .ref 1, am_jk, .int v3, .int v4, .int v5] [.int v4, .int v3, .ref 1] (N, am_ts T, I, L, am_rs r) Q)) from ?_)
      by_cases hc : (f_20 v4 0) = 1
      · rw [if_pos hc] at hw ⊢
        exact ⟨trivial, hR _ hw⟩
      · rw [if_neg hc] at hw ⊢
        refine am_E.go ⟨am_ki_ N T I L r _, s_128 hw (fun q2 hk => ⟨q2, rfl, rfl, hk⟩), ?_⟩
        intro v h9 hv
        obtain ⟨q2, rfl, rfl, hw⟩ := hv
        try dsimp only at hw
        refine am_E.run [19] 2000 (show (am_E S 126 (d + 2) 0 0 19 [am_jk, .ref 1, am_jk, .int v3, .int q2, .int (v5 + 1)] [] (N, am_ts T, I, L, am_rs r) Q) from ?_)
        exact ih hw hE0 hR
/-- KeyKeepers$Doors.fewestToOutside(LKeyKeepers$Prison;I)I -/
def w_126 (x1 : Int32) (I : am_I) (K : Int32 → Prop) : Prop :=
  w_127 x1 I (fun q1 =>
    ¬ (x1 < 0 ∨ 8 ≤ Int32.toNatClampNeg x1) ∧
    ∃ n19, lw_126_19 n19 q1 (1 <<< ((I 6 (Int32.toNatClampNeg x1)) &&& 31)) 0 I (fun o3 o4 =>
      K (-1)) K)
set_option maxRecDepth 100000 in
theorem s_126 {S : am_S} {d : Nat} {N : Nat} {T : Nat → Nat × Nat} {I : am_I} {L : am_J} {r : Nat → Nat → Option Nat} {Q : am_Q} {x1 : Int32} {K : Int32 → Prop} (hw : w_126 x1 I K) (hK : ∀ (q : Int32), K q → Q (some (.int q)) (N, am_ts T, I, L, am_rs r)) : am_E S 126 (d + 2) 0 0 0 [.ref 55, .ref 1, .int x1, am_jk, am_jk, am_jk] [] (N, am_ts T, I, L, am_rs r) Q := by
  unfold w_126 at hw
  try dsimp only at hw
  refine am_E.run [2] 2000 (show (am_E S 126 (d + 2) 0 0 2 [.ref 55, .ref 1, .int x1, am_jk, am_jk, am_jk] [.int x1, .ref 1] (N, am_ts T, I, L, am_rs r) Q) from ?_)
  refine am_E.go ⟨am_ki_ N T I L r _, s_127 hw (fun q1 hk => ⟨q1, rfl, rfl, hk⟩), ?_⟩
  intro v h9 hv
  obtain ⟨q1, rfl, rfl, hw⟩ := hv
  try dsimp only at hw
  refine am_E.run [19] 2000 (show (if x1 < 0 ∨ 8 ≤ Int32.toNatClampNeg x1 then False else (am_E S 126 (d + 2) 0 0 19 [.ref 55, .ref 1, .int x1, .int q1, .int (1 <<< ((I 6 (Int32.toNatClampNeg x1)) &&& 31)), .int 0] [] (N, am_ts T, I, L, am_rs r) Q)) from ?_)
  refine am_ifn hw.1 ?_
  replace hw := hw.2
  obtain ⟨n19, hw⟩ := hw
  refine am_E.junk (lo := [am_jk, .ref 1, am_jk, .int q1, .int (1 <<< ((I 6 (Int32.toNatClampNeg x1)) &&& 31)), .int 0]) ?_ (am_le.jk (am_le.cons (am_le.jk (am_le.cons (am_le.cons (am_le.cons am_le.nil))))))
  refine sl_126_19 n19 hw (fun o3 o4 hw => ?_) hK
  · try dsimp only at hw
    refine am_E.run [] 2000 (show (True ∧ Q (some (.int (-1))) (N, am_ts T, I, L, am_rs r)) from ?_)
    exact ⟨trivial, hK _ hw⟩
def lw_130_41 : Nat → Int32 → Int32 → Int32 → Int32 → am_I → (Int32 → Int32 → Int32 → Prop) → Prop
  | 0, _, _, _, _, _, _ => False
  | n + 1, v3, v4, v5, v6, I, E0 =>
    if (1 <<< (v3 &&& 31)) ≤ v6 then
      E0 v4 v5 v6
    else
      ¬ ((f_133 v6) < 0 ∨ 10 ≤ Int32.toNatClampNeg (f_133 v6)) ∧
      ¬ ((I 58 (Int32.toNatClampNeg (f_133 v6))) < 0 ∨ 10 ≤ Int32.toNatClampNeg (I 58 (Int32.toNatClampNeg (f_133 v6)))) ∧
      if ((f_111 (v4 ^^^ (I 57 (Int32.toNatClampNeg (I 58 (Int32.toNatClampNeg (f_133 v6))))))) - (f_111 v5)) < 0 then
        lw_130_41 n v3 (v4 ^^^ (I 57 (Int32.toNatClampNeg (I 58 (Int32.toNatClampNeg (f_133 v6)))))) (v4 ^^^ (I 57 (Int32.toNatClampNeg (I 58 (Int32.toNatClampNeg (f_133 v6)))))) (v6 + 1) I E0
      else
        if ((f_111 (v4 ^^^ (I 57 (Int32.toNatClampNeg (I 58 (Int32.toNatClampNeg (f_133 v6))))))) - (f_111 v5)) = 0 then
          if v5 ≤ (v4 ^^^ (I 57 (Int32.toNatClampNeg (I 58 (Int32.toNatClampNeg (f_133 v6)))))) then
            lw_130_41 n v3 (v4 ^^^ (I 57 (Int32.toNatClampNeg (I 58 (Int32.toNatClampNeg (f_133 v6)))))) v5 (v6 + 1) I E0
          else
            lw_130_41 n v3 (v4 ^^^ (I 57 (Int32.toNatClampNeg (I 58 (Int32.toNatClampNeg (f_133 v6)))))) (v4 ^^^ (I 57 (Int32.toNatClampNeg (I 58 (Int32.toNatClampNeg (f_133 v6)))))) (v6 + 1) I E0
        else
          lw_130_41 n v3 (v4 ^^^ (I 57 (Int32.toNatClampNeg (I 58 (Int32.toNatClampNeg (f_133 v6)))))) v5 (v6 + 1) I E0
set_option maxRecDepth 100000 in
theorem sl_130_41 {S : am_S} {d : Nat} {Q : am_Q} {N : Nat} {T : Nat → Nat × Nat} {I : am_I} {L : am_J} {r : Nat → Nat → Option Nat} {E0 : Int32 → Int32 → Int32 → Prop} : ∀ (n : Nat) {v3 : Int32} {v4 : Int32} {v5 : Int32} {v6 : Int32}, lw_130_41 n v3 v4 v5 v6 I E0 → (∀ (o4 : Int32) (o5 : Int32) (o6 : Int32), E0 o4 o5 o6 → am_E S 130 (d + 2) 0 0 109 [.ref 55, am_jk, am_jk, .int v3, .int o4, .int o5, .int o6, am_jk] [] (N, am_ts T, I, L, am_rs r) Q) → am_E S 130 (d + 2) 0 0 41 [.ref 55, am_jk, am_jk, .int v3, .int v4, .int v5, .int v6, am_jk] [] (N, am_ts T, I, L, am_rs r) Q
  | 0, _, _, _, _, hw, _ => hw.elim
  | n + 1, v3, v4, v5, v6, hw, hE0 => by
    have ih := @sl_130_41 S d Q N T I L r E0 n
    unfold lw_130_41 at hw
    try dsimp only at hw
    refine am_E.run [61, 109] 2000 (show (if (1 <<< (v3 &&& 31)) ≤ v6 then (am_E S 130 (d + 2) 0 0 109 [.ref 55, am_jk, am_jk, .int v3, .int v4, .int v5, .int v6, am_jk] [] (N, am_ts T, I, L, am_rs r) Q) else (am_E S 130 (d + 2) 0 0 61 [.ref 55, am_jk, am_jk, .int v3, .int v4, .int v5, .int v6, am_jk] [.int v6, .ref 58, .ref 57, .int v4] (N, am_ts T, I, L, am_rs r) Q)) from ?_)
    by_cases hc : (1 <<< (v3 &&& 31)) ≤ v6
    · rw [if_pos hc] at hw ⊢
      exact hE0 _ _ _ hw
    · rw [if_neg hc] at hw ⊢
      refine am_E.go ⟨fun v h9 => v = some (.int (f_133 v6)) ∧ h9 = (N, am_ts T, I, L, am_rs r), s_133 ⟨rfl, rfl⟩, ?_⟩
      intro v h9 hv
      obtain ⟨rfl, rfl⟩ := hv
      refine am_E.run [71] 2000 (show (if (f_133 v6) < 0 ∨ 10 ≤ Int32.toNatClampNeg (f_133 v6) then False else (if (I 58 (Int32.toNatClampNeg (f_133 v6))) < 0 ∨ 10 ≤ Int32.toNatClampNeg (I 58 (Int32.toNatClampNeg (f_133 v6))) then False else (am_E S 130 (d + 2) 0 0 71 [.ref 55, am_jk, am_jk, .int v3, .int (v4 ^^^ (I 57 (Int32.toNatClampNeg (I 58 (Int32.toNatClampNeg (f_133 v6)))))), .int v5, .int v6, am_jk] [.int (v4 ^^^ (I 57 (Int32.toNatClampNeg (I 58 (Int32.toNatClampNeg (f_133 v6))))))] (N, am_ts T, I, L, am_rs r) Q))) from ?_)
      refine am_ifn hw.1 ?_
      replace hw := hw.2
      refine am_ifn hw.1 ?_
      replace hw := hw.2
      refine am_E.go ⟨fun v h9 => v = some (.int (f_111 (v4 ^^^ (I 57 (Int32.toNatClampNeg (I 58 (Int32.toNatClampNeg (f_133 v6)))))))) ∧ h9 = (N, am_ts T, I, L, am_rs r), s_111 ⟨rfl, rfl⟩, ?_⟩
      intro v h9 hv
      obtain ⟨rfl, rfl⟩ := hv
      refine am_E.run [76] 2000 (show (am_E S 130 (d + 2) 0 0 76 [.ref 55, am_jk, am_jk, .int v3, .int (v4 ^^^ (I 57 (Int32.toNatClampNeg (I 58 (Int32.toNatClampNeg (f_133 v6)))))), .int v5, .int v6, am_jk] [.int v5, .int (f_111 (v4 ^^^ (I 57 (Int32.toNatClampNeg (I 58 (Int32.toNatClampNeg (f_133 v6)))))))] (N, am_ts T, I, L, am_rs r) Q) from ?_)
      refine am_E.go ⟨fun v h9 => v = some (.int (f_111 v5)) ∧ h9 = (N, am_ts T, I, L, am_rs r), s_111 ⟨rfl, rfl⟩, ?_⟩
      intro v h9 hv
      obtain ⟨rfl, rfl⟩ := hv
      refine am_E.run [41] 2000 (show (if ((f_111 (v4 ^^^ (I 57 (Int32.toNatClampNeg (I 58 (Int32.toNatClampNeg (f_133 v6))))))) - (f_111 v5)) < 0 then (am_E S 130 (d + 2) 0 0 41 [.ref 55, am_jk, am_jk, .int v3, .int (v4 ^^^ (I 57 (Int32.toNatClampNeg (I 58 (Int32.toNatClampNeg (f_133 v6)))))), .int (v4 ^^^ (I 57 (Int32.toNatClampNeg (I 58 (Int32.toNatClampNeg (f_133 v6)))))), .int (v6 + 1), .int ((f_111 (v4 ^^^ (I 57 (Int32.toNatClampNeg (I 58 (Int32.toNatClampNeg (f_133 v6))))))) - (f_111 v5))] [] (N, am_ts T, I, L, am_rs r) Q) else (if ((f_111 (v4 ^^^ (I 57 (Int32.toNatClampNeg (I 58 (Int32.toNatClampNeg (f_133 v6))))))) - (f_111 v5)) = 0 then (if v5 ≤ (v4 ^^^ (I 57 (Int32.toNatClampNeg (I 58 (Int32.toNatClampNeg (f_133 v6)))))) then (am_E S 130 (d + 2) 0 0 41 [.ref 55, am_jk, am_jk, .int v3, .int (v4 ^^^ (I 57 (Int32.toNatClampNeg (I 58 (Int32.toNatClampNeg (f_133 v6)))))), .int v5, .int (v6 + 1), .int ((f_111 (v4 ^^^ (I 57 (Int32.toNatClampNeg (I 58 (Int32.toNatClampNeg (f_133 v6))))))) - (f_111 v5))] [] (N, am_ts T, I, L, am_rs r) Q) else (am_E S 130 (d + 2) 0 0 41 [.ref 55, am_jk, am_jk, .int v3, .int (v4 ^^^ (I 57 (Int32.toNatClampNeg (I 58 (Int32.toNatClampNeg (f_133 v6)))))), .int (v4 ^^^ (I 57 (Int32.toNatClampNeg (I 58 (Int32.toNatClampNeg (f_133 v6)))))), .int (v6 + 1), .int ((f_111 (v4 ^^^ (I 57 (Int32.toNatClampNeg (I 58 (Int32.toNatClampNeg (f_133 v6))))))) - (f_111 v5))] [] (N, am_ts T, I, L, am_rs r) Q)) else (am_E S 130 (d + 2) 0 0 41 [.ref 55, am_jk, am_jk, .int v3, .int (v4 ^^^ (I 57 (Int32.toNatClampNeg (I 58 (Int32.toNatClampNeg (f_133 v6)))))), .int v5, .int (v6 + 1), .int ((f_111 (v4 ^^^ (I 57 (Int32.toNatClampNeg (I 58 (Int32.toNatClampNeg (f_133 v6))))))) - (f_111 v5))] [] (N, am_ts T, I, L, am_rs r) Q))) from ?_)
      by_cases hc : ((f_111 (v4 ^^^ (I 57 (Int32.toNatClampNeg (I 58 (Int32.toNatClampNeg (f_133 v6))))))) - (f_111 v5)) < 0
      · rw [if_pos hc] at hw ⊢
        exact am_E.junk (ih hw hE0) (am_le.cons (am_le.cons (am_le.cons (am_le.cons (am_le.cons (am_le.cons (am_le.cons (am_le.jk am_le.nil))))))))
      · rw [if_neg hc] at hw ⊢
        by_cases hc : ((f_111 (v4 ^^^ (I 57 (Int32.toNatClampNeg (I 58 (Int32.toNatClampNeg (f_133 v6))))))) - (f_111 v5)) = 0
        · rw [if_pos hc] at hw ⊢
          by_cases hc : v5 ≤ (v4 ^^^ (I 57 (Int32.toNatClampNeg (I 58 (Int32.toNatClampNeg (f_133 v6))))))
          · rw [if_pos hc] at hw ⊢
            exact am_E.junk (ih hw hE0) (am_le.cons (am_le.cons (am_le.cons (am_le.cons (am_le.cons (am_le.cons (am_le.cons (am_le.jk am_le.nil))))))))
          · rw [if_neg hc] at hw ⊢
            exact am_E.junk (ih hw hE0) (am_le.cons (am_le.cons (am_le.cons (am_le.cons (am_le.cons (am_le.cons (am_le.cons (am_le.jk am_le.nil))))))))
        · rw [if_neg hc] at hw ⊢
          exact am_E.junk (ih hw hE0) (am_le.cons (am_le.cons (am_le.cons (am_le.cons (am_le.cons (am_le.cons (am_le.cons (am_le.jk am_le.nil))))))))
/-- KeyKeepers$Doors.fewestWalls(LKeyKeepers$Prison;I)I -/
def w_130 (x1 : Int32) (I : am_I) (K : Int32 → am_I → Prop) : Prop :=
  w_127 x1 I (fun q1 =>
    w_131 q1 I (fun I2 =>
      ¬ (x1 < 0 ∨ 8 ≤ Int32.toNatClampNeg x1) ∧
      w_132 (I2 6 (Int32.toNatClampNeg x1)) I2 (fun q3 I4 =>
        ¬ (x1 < 0 ∨ 8 ≤ Int32.toNatClampNeg x1) ∧
        ¬ ((I4 6 (Int32.toNatClampNeg x1)) < 0 ∨ 10 ≤ Int32.toNatClampNeg (I4 6 (Int32.toNatClampNeg x1))) ∧
        ∃ n41, lw_130_41 n41 q3 (I4 57 (Int32.toNatClampNeg (I4 6 (Int32.toNatClampNeg x1)))) (I4 57 (Int32.toNatClampNeg (I4 6 (Int32.toNatClampNeg x1)))) 1 I4 (fun o5 o6 o7 =>
          K o6 I4))))
set_option maxRecDepth 100000 in
theorem s_130 {S : am_S} {d : Nat} {N : Nat} {T : Nat → Nat × Nat} {I : am_I} {L : am_J} {r : Nat → Nat → Option Nat} {Q : am_Q} {x1 : Int32} {K : Int32 → am_I → Prop} (hw : w_130 x1 I K) (hK : ∀ (q : Int32) (I1 : am_I), K q I1 → Q (some (.int q)) (N, am_ts T, I1, L, am_rs r)) : am_E S 130 (d + 2) 0 0 0 [.ref 55, .ref 1, .int x1, am_jk, am_jk, am_jk, am_jk, am_jk] [] (N, am_ts T, I, L, am_rs r) Q := by
  unfold w_130 at hw
  try dsimp only at hw
  refine am_E.run [4] 2000 (show (am_E S 130 (d + 2) 0 0 4 [.ref 55, .ref 1, .int x1, am_jk, am_jk, am_jk, am_jk, am_jk] [.int x1, .ref 1, .ref 1, .ref 55] (N, am_ts T, I, L, am_rs r) Q) from ?_)
  refine am_E.go ⟨am_ki_ N T I L r _, s_127 hw (fun q1 hk => ⟨q1, rfl, rfl, hk⟩), ?_⟩
  intro v h9 hv
  obtain ⟨q1, rfl, rfl, hw⟩ := hv
  try dsimp only at hw
  show (am_E S 130 (d + 2) 0 0 7 [.ref 55, .ref 1, .int x1, am_jk, am_jk, am_jk, am_jk, am_jk] [.int q1, .ref 1, .ref 55] (N, am_ts T, I, L, am_rs r) Q)
  refine am_E.go ⟨am_kv_I N T L r _, s_131 hw (fun I2 hk => ⟨I2, rfl, rfl, hk⟩), ?_⟩
  intro v h9 hv
  obtain ⟨I2, rfl, rfl, hw⟩ := hv
  try dsimp only at hw
  refine am_E.run [17] 2000 (show (if x1 < 0 ∨ 8 ≤ Int32.toNatClampNeg x1 then False else (am_E S 130 (d + 2) 0 0 17 [.ref 55, .ref 1, .int x1, am_jk, am_jk, am_jk, am_jk, am_jk] [.int (I2 6 (Int32.toNatClampNeg x1)), .ref 55] (N, am_ts T, I2, L, am_rs r) Q)) from ?_)
  refine am_ifn hw.1 ?_
  replace hw := hw.2
  refine am_E.go ⟨am_ki_I N T L r _, s_132 hw (fun q3 I4 hk => ⟨q3, I4, rfl, rfl, hk⟩), ?_⟩
  intro v h9 hv
  obtain ⟨q3, I4, rfl, rfl, hw⟩ := hv
  try dsimp only at hw
  refine am_E.run [41] 2000 (show (if x1 < 0 ∨ 8 ≤ Int32.toNatClampNeg x1 then False else (if (I4 6 (Int32.toNatClampNeg x1)) < 0 ∨ 10 ≤ Int32.toNatClampNeg (I4 6 (Int32.toNatClampNeg x1)) then False else (am_E S 130 (d + 2) 0 0 41 [.ref 55, .ref 1, .int x1, .int q3, .int (I4 57 (Int32.toNatClampNeg (I4 6 (Int32.toNatClampNeg x1)))), .int (I4 57 (Int32.toNatClampNeg (I4 6 (Int32.toNatClampNeg x1)))), .int 1, am_jk] [] (N, am_ts T, I4, L, am_rs r) Q))) from ?_)
  refine am_ifn hw.1 ?_
  replace hw := hw.2
  refine am_ifn hw.1 ?_
  replace hw := hw.2
  obtain ⟨n41, hw⟩ := hw
  refine am_E.junk (lo := [.ref 55, am_jk, am_jk, .int q3, .int (I4 57 (Int32.toNatClampNeg (I4 6 (Int32.toNatClampNeg x1)))), .int (I4 57 (Int32.toNatClampNeg (I4 6 (Int32.toNatClampNeg x1)))), .int 1, am_jk]) ?_ (am_le.cons (am_le.jk (am_le.jk (am_le.cons (am_le.cons (am_le.cons (am_le.cons (am_le.cons am_le.nil))))))))
  refine sl_130_41 n41 hw (fun o5 o6 o7 hw => ?_)
  · try dsimp only at hw
    refine am_E.run [] 2000 (show (True ∧ Q (some (.int o6)) (N, am_ts T, I4, L, am_rs r)) from ?_)
    exact ⟨trivial, hK _ _ hw⟩
