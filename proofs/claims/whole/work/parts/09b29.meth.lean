/-- KeyKeepers.voted(I)I -/
def w_163 (x0 : Int32) (T : Nat → Nat × Nat) (r : Nat → Nat → Option Nat) (I : am_I) (K : Int32 → am_I → Prop) : Prop :=
  if x0 = (-1) then
    w_108 x0 T r I (fun q1 =>
      (q1 = none →
        w_164n T r I (fun q3 I4 =>
          K q3 I4)) ∧ ∀ t2, q1 = some t2 →
        w_164s t2 T r I (fun q5 I6 =>
          K q5 I6))
  else
    if (f_106 x0 I) = 0 then
      K (-1) I
    else
      w_108 x0 T r I (fun q7 =>
        (q7 = none →
          w_164n T r I (fun q9 I10 =>
            K q9 I10)) ∧ ∀ t8, q7 = some t8 →
          w_164s t8 T r I (fun q11 I12 =>
            K q11 I12))
set_option maxRecDepth 100000 in
theorem s_163 {S : am_S} {d : Nat} {N : Nat} {T : Nat → Nat × Nat} {I : am_I} {L : am_J} {r : Nat → Nat → Option Nat} {Q : am_Q} {x0 : Int32} {K : Int32 → am_I → Prop} (hw : w_163 x0 T r I K) (hK : ∀ (q : Int32) (I1 : am_I), K q I1 → Q (some (.int q)) (N, am_ts T, I1, L, am_rs r)) : am_E S 163 (d + 6) 0 0 0 [.ref 0, .int x0] [] (N, am_ts T, I, L, am_rs r) Q := by
  unfold w_163 at hw
  try dsimp only at hw
  refine am_E.run [10, 31] 2000 (show (if x0 = (-1) then (am_E S 163 (d + 6) 0 0 31 [.ref 0, .int x0] [.int x0, .ref 1, .ref 1, .ref 23] (N, am_ts T, I, L, am_rs r) Q) else (am_E S 163 (d + 6) 0 0 10 [.ref 0, .int x0] [.int x0, .ref 1] (N, am_ts T, I, L, am_rs r) Q)) from ?_)
  by_cases hc : x0 = (-1)
  · rw [if_pos hc] at hw ⊢
    refine am_E.go ⟨am_kr_ N T I L r _, s_108 hw (fun q1 hk => ⟨q1, rfl, rfl, hk⟩), ?_⟩
    intro v h9 hv
    obtain ⟨q1, rfl, rfl, hw⟩ := hv
    try dsimp only at hw
    show (am_E S 163 (d + 6) 0 0 34 [.ref 0, .int x0] [am_rv q1, .ref 1, .ref 23] (N, am_ts T, I, L, am_rs r) Q)
    cases hx : q1 with
    | none =>
      replace hw := hw.1 hx
      show (am_E S 163 (d + 6) 0 0 34 [.ref 0, .int x0] [.null, .ref 1, .ref 23] (N, am_ts T, I, L, am_rs r) Q)
      refine am_E.go ⟨am_ki_I N T L r _, s_164n hw (fun q3 I4 hk => ⟨q3, I4, rfl, rfl, hk⟩), ?_⟩
      intro v h9 hv
      obtain ⟨q3, I4, rfl, rfl, hw⟩ := hv
      try dsimp only at hw
      refine am_E.run [] 2000 (show (True ∧ Q (some (.int q3)) (N, am_ts T, I4, L, am_rs r)) from ?_)
      exact ⟨trivial, hK _ _ hw⟩
    | some t2 =>
      replace hw := hw.2 t2 hx
      show (am_E S 163 (d + 6) 0 0 34 [.ref 0, .int x0] [.ref t2, .ref 1, .ref 23] (N, am_ts T, I, L, am_rs r) Q)
      refine am_E.go ⟨am_ki_I N T L r _, s_164s hw (fun q5 I6 hk => ⟨q5, I6, rfl, rfl, hk⟩), ?_⟩
      intro v h9 hv
      obtain ⟨q5, I6, rfl, rfl, hw⟩ := hv
      try dsimp only at hw
      refine am_E.run [] 2000 (show (True ∧ Q (some (.int q5)) (N, am_ts T, I6, L, am_rs r)) from ?_)
      exact ⟨trivial, hK _ _ hw⟩
  · rw [if_neg hc] at hw ⊢
    refine am_E.go ⟨fun v h9 => v = some (.int (f_106 x0 I)) ∧ h9 = (N, am_ts T, I, L, am_rs r), s_106 ⟨rfl, rfl⟩, ?_⟩
    intro v h9 hv
    obtain ⟨rfl, rfl⟩ := hv
    refine am_E.run [31] 2000 (show (if (f_106 x0 I) = 0 then (True ∧ Q (some (.int (-1))) (N, am_ts T, I, L, am_rs r)) else (am_E S 163 (d + 6) 0 0 31 [.ref 0, .int x0] [.int x0, .ref 1, .ref 1, .ref 23] (N, am_ts T, I, L, am_rs r) Q)) from ?_)
    by_cases hc : (f_106 x0 I) = 0
    · rw [if_pos hc] at hw ⊢
      exact ⟨trivial, hK _ _ hw⟩
    · rw [if_neg hc] at hw ⊢
      refine am_E.go ⟨am_kr_ N T I L r _, s_108 hw (fun q7 hk => ⟨q7, rfl, rfl, hk⟩), ?_⟩
      intro v h9 hv
      obtain ⟨q7, rfl, rfl, hw⟩ := hv
      try dsimp only at hw
      show (am_E S 163 (d + 6) 0 0 34 [.ref 0, .int x0] [am_rv q7, .ref 1, .ref 23] (N, am_ts T, I, L, am_rs r) Q)
      cases hx : q7 with
      | none =>
        replace hw := hw.1 hx
        show (am_E S 163 (d + 6) 0 0 34 [.ref 0, .int x0] [.null, .ref 1, .ref 23] (N, am_ts T, I, L, am_rs r) Q)
        refine am_E.go ⟨am_ki_I N T L r _, s_164n hw (fun q9 I10 hk => ⟨q9, I10, rfl, rfl, hk⟩), ?_⟩
        intro v h9 hv
        obtain ⟨q9, I10, rfl, rfl, hw⟩ := hv
        try dsimp only at hw
        refine am_E.run [] 2000 (show (True ∧ Q (some (.int q9)) (N, am_ts T, I10, L, am_rs r)) from ?_)
        exact ⟨trivial, hK _ _ hw⟩
      | some t8 =>
        replace hw := hw.2 t8 hx
        show (am_E S 163 (d + 6) 0 0 34 [.ref 0, .int x0] [.ref t8, .ref 1, .ref 23] (N, am_ts T, I, L, am_rs r) Q)
        refine am_E.go ⟨am_ki_I N T L r _, s_164s hw (fun q11 I12 hk => ⟨q11, I12, rfl, rfl, hk⟩), ?_⟩
        intro v h9 hv
        obtain ⟨q11, I12, rfl, rfl, hw⟩ := hv
        try dsimp only at hw
        refine am_E.run [] 2000 (show (True ∧ Q (some (.int q11)) (N, am_ts T, I12, L, am_rs r)) from ?_)
        exact ⟨trivial, hK _ _ hw⟩
def lw_213_20 : Nat → Int32 → Int32 → am_I → am_J → (Int32 → am_I → am_J → Prop) → Prop
  | 0, _, _, _, _, _ => False
  | n + 1, v1, v2, I, L, E0 =>
    if (I 66 19) = 0 then
      if v2 = 4 then
        E0 v2 I L
      else
        if v2 = 0 then
          w_214 I L (fun q10 I11 L12 =>
            lw_213_20 n v1 q10 I11 L12 E0)
        else
          if v2 = 1 then
            w_218 I L (fun q7 I8 L9 =>
              lw_213_20 n v1 q7 I8 L9 E0)
          else
            if v2 = 3 then
              w_224 v1 I L (fun q4 I5 L6 =>
                lw_213_20 n v1 q4 I5 L6 E0)
            else
              w_229 I L (fun q1 I2 L3 =>
                lw_213_20 n v1 q1 I2 L3 E0)
    else
      E0 v2 I L
set_option maxRecDepth 100000 in
theorem sl_213_20 {S : am_S} {d : Nat} {Q : am_Q} {N : Nat} {T : Nat → Nat × Nat} {r : Nat → Nat → Option Nat} {E0 : Int32 → am_I → am_J → Prop} : ∀ (n : Nat) {v1 : Int32} {v2 : Int32} {I : am_I} {L : am_J}, lw_213_20 n v1 v2 I L E0 → (∀ (o2 : Int32) (I1 : am_I) (L1 : am_J), E0 o2 I1 L1 → am_E S 213 (d + 6) 0 0 76 [.ref 66, .int v1, .int o2] [] (N, am_ts T, I1, L1, am_rs r) Q) → am_E S 213 (d + 6) 0 0 20 [.ref 66, .int v1, .int v2] [] (N, am_ts T, I, L, am_rs r) Q
  | 0, _, _, _, _, hw, _ => hw.elim
  | n + 1, v1, v2, I, L, hw, hE0 => by
    have ih := @sl_213_20 S d Q N T r E0 n
    unfold lw_213_20 at hw
    try dsimp only at hw
    refine am_E.run [37, 49, 62, 69, 76] 2000 (show (if (I 66 19) = 0 then (if v2 = 4 then (am_E S 213 (d + 6) 0 0 76 [.ref 66, .int v1, .int v2] [] (N, am_ts T, I, L, am_rs r) Q) else (if v2 = 0 then (am_E S 213 (d + 6) 0 0 37 [.ref 66, .int v1, .int v2] [.ref 66] (N, am_ts T, I, L, am_rs r) Q) else (if v2 = 1 then (am_E S 213 (d + 6) 0 0 49 [.ref 66, .int v1, .int v2] [.ref 66] (N, am_ts T, I, L, am_rs r) Q) else (if v2 = 3 then (am_E S 213 (d + 6) 0 0 62 [.ref 66, .int v1, .int v2] [.int v1, .ref 66] (N, am_ts T, I, L, am_rs r) Q) else (am_E S 213 (d + 6) 0 0 69 [.ref 66, .int v1, .int v2] [.ref 66] (N, am_ts T, I, L, am_rs r) Q))))) else (am_E S 213 (d + 6) 0 0 76 [.ref 66, .int v1, .int v2] [] (N, am_ts T, I, L, am_rs r) Q)) from ?_)
    by_cases hc : (I 66 19) = 0
    · rw [if_pos hc] at hw ⊢
      by_cases hc : v2 = 4
      · rw [if_pos hc] at hw ⊢
        exact hE0 _ _ _ hw
      · rw [if_neg hc] at hw ⊢
        by_cases hc : v2 = 0
        · rw [if_pos hc] at hw ⊢
          refine am_E.go ⟨am_ki_IL N T r _, s_214 hw (fun q10 I11 L12 hk => ⟨q10, I11, L12, rfl, rfl, hk⟩), ?_⟩
          intro v h9 hv
          obtain ⟨q10, I11, L12, rfl, rfl, hw⟩ := hv
          try dsimp only at hw
          refine am_E.run [20] 2000 (show (am_E S 213 (d + 6) 0 0 20 [.ref 66, .int v1, .int q10] [] (N, am_ts T, I11, L12, am_rs r) Q) from ?_)
          exact ih hw hE0
        · rw [if_neg hc] at hw ⊢
          by_cases hc : v2 = 1
          · rw [if_pos hc] at hw ⊢
            refine am_E.go ⟨am_ki_IL N T r _, s_218 hw (fun q7 I8 L9 hk => ⟨q7, I8, L9, rfl, rfl, hk⟩), ?_⟩
            intro v h9 hv
            obtain ⟨q7, I8, L9, rfl, rfl, hw⟩ := hv
            try dsimp only at hw
            refine am_E.run [20] 2000 (show (am_E S 213 (d + 6) 0 0 20 [.ref 66, .int v1, .int q7] [] (N, am_ts T, I8, L9, am_rs r) Q) from ?_)
            exact ih hw hE0
          · rw [if_neg hc] at hw ⊢
            by_cases hc : v2 = 3
            · rw [if_pos hc] at hw ⊢
              refine am_E.go ⟨am_ki_IL N T r _, s_224 hw (fun q4 I5 L6 hk => ⟨q4, I5, L6, rfl, rfl, hk⟩), ?_⟩
              intro v h9 hv
              obtain ⟨q4, I5, L6, rfl, rfl, hw⟩ := hv
              try dsimp only at hw
              refine am_E.run [20] 2000 (show (am_E S 213 (d + 6) 0 0 20 [.ref 66, .int v1, .int q4] [] (N, am_ts T, I5, L6, am_rs r) Q) from ?_)
              exact ih hw hE0
            · rw [if_neg hc] at hw ⊢
              refine am_E.go ⟨am_ki_IL N T r _, s_229 hw (fun q1 I2 L3 hk => ⟨q1, I2, L3, rfl, rfl, hk⟩), ?_⟩
              intro v h9 hv
              obtain ⟨q1, I2, L3, rfl, rfl, hw⟩ := hv
              try dsimp only at hw
              refine am_E.run [20] 2000 (show (am_E S 213 (d + 6) 0 0 20 [.ref 66, .int v1, .int q1] [] (N, am_ts T, I2, L3, am_rs r) Q) from ?_)
              exact ih hw hE0
    · rw [if_neg hc] at hw ⊢
      exact hE0 _ _ _ hw
/-- KeyKeepersModel.readExpression(Z)V -/
def w_213 (x0 : Int32) (I : am_I) (L : am_J) (K : am_I → am_J → Prop) : Prop :=
  if x0 = 0 then
    ∃ n20, lw_213_20 n20 x0 1 (am_u (am_u I 66 29 0) 66 30 0) L (fun o13 I14 L15 =>
      w_226 1 I14 (fun I16 =>
        K I16 L15))
  else
    ∃ n20, lw_213_20 n20 x0 0 (am_u (am_u I 66 29 0) 66 30 0) L (fun o29 I30 L31 =>
      w_226 1 I30 (fun I32 =>
        K I32 L31))
set_option maxRecDepth 100000 in
theorem s_213 {S : am_S} {d : Nat} {N : Nat} {T : Nat → Nat × Nat} {I : am_I} {L : am_J} {r : Nat → Nat → Option Nat} {Q : am_Q} {x0 : Int32} {K : am_I → am_J → Prop} (hw : w_213 x0 I L K) (hK : ∀ (I1 : am_I) (L1 : am_J), K I1 L1 → Q (none) (N, am_ts T, I1, L1, am_rs r)) : am_E S 213 (d + 6) 0 0 0 [.ref 66, .int x0, am_jk] [] (N, am_ts T, I, L, am_rs r) Q := by
  unfold w_213 at hw
  try dsimp only at hw
  refine am_E.run [20] 2000 (show (if x0 = 0 then (am_E S 213 (d + 6) 0 0 20 [.ref 66, .int x0, .int 1] [] (N, am_ts T, (am_u (am_u I 66 29 0) 66 30 0), L, am_rs r) Q) else (am_E S 213 (d + 6) 0 0 20 [.ref 66, .int x0, .int 0] [] (N, am_ts T, (am_u (am_u I 66 29 0) 66 30 0), L, am_rs r) Q)) from ?_)
  by_cases hc : x0 = 0
  · rw [if_pos hc] at hw ⊢
    obtain ⟨n20, hw⟩ := hw
    refine sl_213_20 n20 hw (fun o13 I14 L15 hw => ?_)
    · try dsimp only at hw
      refine am_E.run [78] 2000 (show (am_E S 213 (d + 6) 0 0 78 [.ref 66, .int x0, .int o13] [.int 1, .ref 66] (N, am_ts T, I14, L15, am_rs r) Q) from ?_)
      refine am_E.go ⟨am_kv_I N T L15 r _, s_226 hw (fun I16 hk => ⟨I16, rfl, rfl, hk⟩), ?_⟩
      intro v h9 hv
      obtain ⟨I16, rfl, rfl, hw⟩ := hv
      try dsimp only at hw
      refine am_E.run [] 2000 (show (True ∧ Q (none) (N, am_ts T, I16, L15, am_rs r)) from ?_)
      exact ⟨trivial, hK _ _ hw⟩
  · rw [if_neg hc] at hw ⊢
    obtain ⟨n20, hw⟩ := hw
    refine sl_213_20 n20 hw (fun o29 I30 L31 hw => ?_)
    · try dsimp only at hw
      refine am_E.run [78] 2000 (show (am_E S 213 (d + 6) 0 0 78 [.ref 66, .int x0, .int o29] [.int 1, .ref 66] (N, am_ts T, I30, L31, am_rs r) Q) from ?_)
      refine am_E.go ⟨am_kv_I N T L31 r _, s_226 hw (fun I32 hk => ⟨I32, rfl, rfl, hk⟩), ?_⟩
      intro v h9 hv
      obtain ⟨I32, rfl, rfl, hw⟩ := hv
      try dsimp only at hw
      refine am_E.run [] 2000 (show (True ∧ Q (none) (N, am_ts T, I32, L31, am_rs r)) from ?_)
      exact ⟨trivial, hK _ _ hw⟩
/-- KeyKeepersModel.costsBy(IIII)I -/
def w_234 (x0 : Int32) (x1 : Int32) (x2 : Int32) (x3 : Int32) (I : am_I) (L : am_J) (K : Int32 → am_I → am_J → Prop) : Prop :=
  ¬ ((34 + x1) < 0 ∨ 5510 ≤ Int32.toNatClampNeg (34 + x1)) ∧
  w_235 x0 0 x1 x2 x3 (-1) ((Int32.toInt64 (I 68 (Int32.toNatClampNeg (34 + x1)))) + 1) I L (fun q1 I2 L3 =>
    K (f_241 q1 0 999) I2 L3)
set_option maxRecDepth 100000 in
theorem s_234 {S : am_S} {d : Nat} {N : Nat} {T : Nat → Nat × Nat} {I : am_I} {L : am_J} {r : Nat → Nat → Option Nat} {Q : am_Q} {x0 : Int32} {x1 : Int32} {x2 : Int32} {x3 : Int32} {K : Int32 → am_I → am_J → Prop} (hw : w_234 x0 x1 x2 x3 I L K) (hK : ∀ (q : Int32) (I1 : am_I) (L1 : am_J), K q I1 L1 → Q (some (.int q)) (N, am_ts T, I1, L1, am_rs r)) : am_E S 234 (d + 5) 0 0 0 [.ref 66, .int x0, .int x1, .int x2, .int x3] [] (N, am_ts T, I, L, am_rs r) Q := by
  unfold w_234 at hw
  try dsimp only at hw
  refine am_E.run [20] 2000 (show (if (34 + x1) < 0 ∨ 5510 ≤ Int32.toNatClampNeg (34 + x1) then False else (am_E S 234 (d + 5) 0 0 20 [.ref 66, .int x0, .int x1, .int x2, .int x3] [.long ((Int32.toInt64 (I 68 (Int32.toNatClampNeg (34 + x1)))) + 1), .int (-1), .int x3, .int x2, .int x1, .int 0, .int x0, .ref 66] (N, am_ts T, I, L, am_rs r) Q)) from ?_)
  refine am_ifn hw.1 ?_
  replace hw := hw.2
  refine am_E.go ⟨am_kl_IL N T r _, s_235 hw (fun q1 I2 L3 hk => ⟨q1, I2, L3, rfl, rfl, hk⟩), ?_⟩
  intro v h9 hv
  obtain ⟨q1, I2, L3, rfl, rfl, hw⟩ := hv
  try dsimp only at hw
  refine am_E.run [27] 2000 (show (am_E S 234 (d + 5) 0 0 27 [.ref 66, .int x0, .int x1, .int x2, .int x3] [.int 999, .int 0, .long q1] (N, am_ts T, I2, L3, am_rs r) Q) from ?_)
  refine am_E.go ⟨fun v h9 => v = some (.int (f_241 q1 0 999)) ∧ h9 = (N, am_ts T, I2, L3, am_rs r), s_241 ⟨rfl, rfl⟩, ?_⟩
  intro v h9 hv
  obtain ⟨rfl, rfl⟩ := hv
  refine am_E.run [] 2000 (show (True ∧ Q (some (.int (f_241 q1 0 999))) (N, am_ts T, I2, L3, am_rs r)) from ?_)
  exact ⟨trivial, hK _ _ _ hw⟩
def lw_273_29 : Nat → Int32 → Int32 → Int32 → am_I → am_J → (Int32 → am_I → am_J → Prop) → Prop
  | 0, _, _, _, _, _, _ => False
  | n + 1, v1, v2, v3, I, L, E0 =>
    if (2 : Int32) ≤ v3 then
      E0 v3 I L
    else
      w_242 v1 v2 v3 I L (fun q1 I2 L3 =>
        if q1 = 0 then
          w_234 (I2 68 4) v1 v2 v3 I2 L3 (fun q4 I5 L6 =>
            ¬ ((((12 * v1) + (2 * v2)) + v3) < 0 ∨ 96 ≤ Int32.toNatClampNeg (((12 * v1) + (2 * v2)) + v3)) ∧
            lw_273_29 n v1 v2 (v3 + 1) (am_u I5 88 (Int32.toNatClampNeg (((12 * v1) + (2 * v2)) + v3)) q4) L6 E0)
        else
          ¬ ((((12 * v1) + (2 * v2)) + v3) < 0 ∨ 96 ≤ Int32.toNatClampNeg (((12 * v1) + (2 * v2)) + v3)) ∧
          lw_273_29 n v1 v2 (v3 + 1) (am_u I2 88 (Int32.toNatClampNeg (((12 * v1) + (2 * v2)) + v3)) (-1)) L3 E0)
set_option maxRecDepth 100000 in
theorem sl_273_29 {S : am_S} {d : Nat} {Q : am_Q} {N : Nat} {T : Nat → Nat × Nat} {r : Nat → Nat → Option Nat} {E0 : Int32 → am_I → am_J → Prop} : ∀ (n : Nat) {v1 : Int32} {v2 : Int32} {v3 : Int32} {I : am_I} {L : am_J}, lw_273_29 n v1 v2 v3 I L E0 → (∀ (o3 : Int32) (I1 : am_I) (L1 : am_J), E0 o3 I1 L1 → am_E S 273 (d + 6) 0 0 82 [.ref 66, .int v1, .int v2, .int o3] [] (N, am_ts T, I1, L1, am_rs r) Q) → am_E S 273 (d + 6) 0 0 29 [.ref 66, .int v1, .int v2, .int v3] [] (N, am_ts T, I, L, am_rs r) Q
  | 0, _, _, _, _, _, hw, _ => hw.elim
  | n + 1, v1, v2, v3, I, L, hw, hE0 => by
    have ih := @sl_273_29 S d Q N T r E0 n
    unfold lw_273_29 at hw
    try dsimp only at hw
    refine am_E.run [52, 82] 2000 (show (if (2 : Int32) ≤ v3 then (am_E S 273 (d + 6) 0 0 82 [.ref 66, .int v1, .int v2, .int v3] [] (N, am_ts T, I, L, am_rs r) Q) else (am_E S 273 (d + 6) 0 0 52 [.ref 66, .int v1, .int v2, .int v3] [.int v3, .int v2, .int v1, .ref 66, .int (((12 * v1) + (2 * v2)) + v3), .ref 88] (N, am_ts T, I, L, am_rs r) Q)) from ?_)
    by_cases hc : (2 : Int32) ≤ v3
    · rw [if_pos hc] at hw ⊢
      exact hE0 _ _ _ hw
    · rw [if_neg hc] at hw ⊢
      refine am_E.go ⟨am_ki_IL N T r _, s_242 hw (fun q1 I2 L3 hk => ⟨q1, I2, L3, rfl, rfl, hk⟩), ?_⟩
      intro v h9 hv
      obtain ⟨q1, I2, L3, rfl, rfl, hw⟩ := hv
      try dsimp only at hw
      refine am_E.run [29, 72] 2000 (show (if q1 = 0 then (am_E S 273 (d + 6) 0 0 72 [.ref 66, .int v1, .int v2, .int v3] [.int v3, .int v2, .int v1, .int (I2 68 4), .ref 66, .int (((12 * v1) + (2 * v2)) + v3), .ref 88] (N, am_ts T, I2, L3, am_rs r) Q) else (if (((12 * v1) + (2 * v2)) + v3) < 0 ∨ 96 ≤ Int32.toNatClampNeg (((12 * v1) + (2 * v2)) + v3) then False else (am_E S 273 (d + 6) 0 0 29 [.ref 66, .int v1, .int v2, .int (v3 + 1)] [] (N, am_ts T, (am_u I2 88 (Int32.toNatClampNeg (((12 * v1) + (2 * v2)) + v3)) (-1)), L3, am_rs r) Q))) from ?_)
      by_cases hc : q1 = 0
      · rw [if_pos hc] at hw ⊢
        refine am_E.go ⟨am_ki_IL N T r _, s_234 hw (fun q4 I5 L6 hk => ⟨q4, I5, L6, rfl, rfl, hk⟩), ?_⟩
        intro v h9 hv
        obtain ⟨q4, I5, L6, rfl, rfl, hw⟩ := hv
        try dsimp only at hw
        refine am_E.run [29] 2000 (show (if (((12 * v1) + (2 * v2)) + v3) < 0 ∨ 96 ≤ Int32.toNatClampNeg (((12 * v1) + (2 * v2)) + v3) then False else (am_E S 273 (d + 6) 0 0 29 [.ref 66, .int v1, .int v2, .int (v3 + 1)] [] (N, am_ts T, (am_u I5 88 (Int32.toNatClampNeg (((12 * v1) + (2 * v2)) + v3)) q4), L6, am_rs r) Q)) from ?_)
        refine am_ifn hw.1 ?_
        replace hw := hw.2
        exact ih hw hE0
      · rw [if_neg hc] at hw ⊢
        refine am_ifn hw.1 ?_
        replace hw := hw.2
        exact ih hw hE0
def lw_273_21 : Nat → Int32 → Int32 → am_I → am_J → (Int32 → am_I → am_J → Prop) → Prop
  | 0, _, _, _, _, _ => False
  | n + 1, v1, v2, I, L, E0 =>
    if (6 : Int32) ≤ v2 then
      E0 v2 I L
    else
      ∃ n29, lw_273_29 n29 v1 v2 0 I L (fun o7 I8 L9 =>
        lw_273_21 n v1 (v2 + 1) I8 L9 E0)
set_option maxRecDepth 100000 in
theorem sl_273_21 {S : am_S} {d : Nat} {Q : am_Q} {N : Nat} {T : Nat → Nat × Nat} {r : Nat → Nat → Option Nat} {E0 : Int32 → am_I → am_J → Prop} : ∀ (n : Nat) {v1 : Int32} {v2 : Int32} {I : am_I} {L : am_J}, lw_273_21 n v1 v2 I L E0 → (∀ (o2 : Int32) (I1 : am_I) (L1 : am_J), E0 o2 I1 L1 → am_E S 273 (d + 6) 0 0 88 [.ref 66, .int v1, .int o2, am_jk] [] (N, am_ts T, I1, L1, am_rs r) Q) → am_E S 273 (d + 6) 0 0 21 [.ref 66, .int v1, .int v2, am_jk] [] (N, am_ts T, I, L, am_rs r) Q
  | 0, _, _, _, _, hw, _ => hw.elim
  | n + 1, v1, v2, I, L, hw, hE0 => by
    have ih := @sl_273_21 S d Q N T r E0 n
    unfold lw_273_21 at hw
    try dsimp only at hw
    refine am_E.run [29, 88] 2000 (show (if (6 : Int32) ≤ v2 then (am_E S 273 (d + 6) 0 0 88 [.ref 66, .int v1, .int v2, am_jk] [] (N, am_ts T, I, L, am_rs r) Q) else (am_E S 273 (d + 6) 0 0 29 [.ref 66, .int v1, .int v2, .int 0] [] (N, am_ts T, I, L, am_rs r) Q)) from ?_)
    by_cases hc : (6 : Int32) ≤ v2
    · rw [if_pos hc] at hw ⊢
      exact hE0 _ _ _ hw
    · rw [if_neg hc] at hw ⊢
      obtain ⟨n29, hw⟩ := hw
      refine sl_273_29 n29 hw (fun o7 I8 L9 hw => ?_)
      · try dsimp only at hw
        refine am_E.run [21] 2000 (show (am_E S 273 (d + 6) 0 0 21 [.ref 66, .int v1, .int (v2 + 1), .int o7] [] (N, am_ts T, I8, L9, am_rs r) Q) from ?_)
        exact am_E.junk (ih hw hE0) (am_le.cons (am_le.cons (am_le.cons (am_le.jk am_le.nil))))
def lw_273_2 : Nat → Int32 → am_I → am_J → (Int32 → am_I → am_J → Prop) → Prop
  | 0, _, _, _, _ => False
  | n + 1, v1, I, L, E0 =>
    if (I 68 1) ≤ v1 then
      E0 v1 I L
    else
      ¬ (v1 < 0 ∨ 8 ≤ Int32.toNatClampNeg v1) ∧
      ∃ n21, lw_273_21 n21 v1 0 (am_u I 91 (Int32.toNatClampNeg v1) 0) L (fun o10 I11 L12 =>
        lw_273_2 n (v1 + 1) I11 L12 E0)
set_option maxRecDepth 100000 in
theorem sl_273_2 {S : am_S} {d : Nat} {Q : am_Q} {N : Nat} {T : Nat → Nat × Nat} {r : Nat → Nat → Option Nat} {E0 : Int32 → am_I → am_J → Prop} : ∀ (n : Nat) {v1 : Int32} {I : am_I} {L : am_J}, lw_273_2 n v1 I L E0 → (∀ (o1 : Int32) (I1 : am_I) (L1 : am_J), E0 o1 I1 L1 → am_E S 273 (d + 6) 0 0 94 [.ref 66, .int o1, am_jk, am_jk] [] (N, am_ts T, I1, L1, am_rs r) Q) → am_E S 273 (d + 6) 0 0 2 [.ref 66, .int v1, am_jk, am_jk] [] (N, am_ts T, I, L, am_rs r) Q
  | 0, _, _, _, hw, _ => hw.elim
  | n + 1, v1, I, L, hw, hE0 => by
    have ih := @sl_273_2 S d Q N T r E0 n
    unfold lw_273_2 at hw
    try dsimp only at hw
    refine am_E.run [21, 94] 2000 (show (if (I 68 1) ≤ v1 then (am_E S 273 (d + 6) 0 0 94 [.ref 66, .int v1, am_jk, am_jk] [] (N, am_ts T, I, L, am_rs r) Q) else (if v1 < 0 ∨ 8 ≤ Int32.toNatClampNeg v1 then False else (am_E S 273 (d + 6) 0 0 21 [.ref 66, .int v1, .int 0, am_jk] [] (N, am_ts T, (am_u I 91 (Int32.toNatClampNeg v1) 0), L, am_rs r) Q))) from ?_)
    by_cases hc : (I 68 1) ≤ v1
    · rw [if_pos hc] at hw ⊢
      exact hE0 _ _ _ hw
    · rw [if_neg hc] at hw ⊢
      refine am_ifn hw.1 ?_
      replace hw := hw.2
      obtain ⟨n21, hw⟩ := hw
      refine sl_273_21 n21 hw (fun o10 I11 L12 hw => ?_)
      · try dsimp only at hw
        refine am_E.run [2] 2000 (show (am_E S 273 (d + 6) 0 0 2 [.ref 66, .int (v1 + 1), .int o10, am_jk] [] (N, am_ts T, I11, L12, am_rs r) Q) from ?_)
        exact am_E.junk (ih hw hE0) (am_le.cons (am_le.cons (am_le.jk (am_le.cons am_le.nil))))
/-- KeyKeepersModel.layCosts()V -/
def w_273 (I : am_I) (L : am_J) (K : am_I → am_J → Prop) : Prop :=
  ∃ n2, lw_273_2 n2 0 I L (fun o13 I14 L15 =>
    K I14 L15)
set_option maxRecDepth 100000 in
theorem s_273 {S : am_S} {d : Nat} {N : Nat} {T : Nat → Nat × Nat} {I : am_I} {L : am_J} {r : Nat → Nat → Option Nat} {Q : am_Q} {K : am_I → am_J → Prop} (hw : w_273 I L K) (hK : ∀ (I1 : am_I) (L1 : am_J), K I1 L1 → Q (none) (N, am_ts T, I1, L1, am_rs r)) : am_E S 273 (d + 6) 0 0 0 [.ref 66, am_jk, am_jk, am_jk] [] (N, am_ts T, I, L, am_rs r) Q := by
  unfold w_273 at hw
  try dsimp only at hw
  refine am_E.run [2] 2000 (show (am_E S 273 (d + 6) 0 0 2 [.ref 66, .int 0, am_jk, am_jk] [] (N, am_ts T, I, L, am_rs r) Q) from ?_)
  obtain ⟨n2, hw⟩ := hw
  refine sl_273_2 n2 hw (fun o13 I14 L15 hw => ?_)
  · try dsimp only at hw
    refine am_E.run [] 2000 (show (True ∧ Q (none) (N, am_ts T, I14, L15, am_rs r)) from ?_)
    exact ⟨trivial, hK _ _ hw⟩
def lw_288_5 : Nat → Int32 → Int32 → Int32 → Int32 → am_I → am_J → (Int32 → Int32 → am_I → am_J → Prop) → Prop
  | 0, _, _, _, _, _, _, _ => False
  | n + 1, v1, v2, v3, v4, I, L, E0 =>
    if (6 : Int32) ≤ v4 then
      E0 v3 v4 I L
    else
      w_234 v1 v2 v4 0 I L (fun q1 I2 L3 =>
        lw_288_5 n v1 v2 (v3 + q1) (v4 + 1) I2 L3 E0)
set_option maxRecDepth 100000 in
theorem sl_288_5 {S : am_S} {d : Nat} {Q : am_Q} {N : Nat} {T : Nat → Nat × Nat} {r : Nat → Nat → Option Nat} {E0 : Int32 → Int32 → am_I → am_J → Prop} : ∀ (n : Nat) {v1 : Int32} {v2 : Int32} {v3 : Int32} {v4 : Int32} {I : am_I} {L : am_J}, lw_288_5 n v1 v2 v3 v4 I L E0 → (∀ (o3 : Int32) (o4 : Int32) (I1 : am_I) (L1 : am_J), E0 o3 o4 I1 L1 → am_E S 288 (d + 6) 0 0 30 [.ref 66, .int v1, .int v2, .int o3, .int o4] [] (N, am_ts T, I1, L1, am_rs r) Q) → am_E S 288 (d + 6) 0 0 5 [.ref 66, .int v1, .int v2, .int v3, .int v4] [] (N, am_ts T, I, L, am_rs r) Q
  | 0, _, _, _, _, _, _, hw, _ => hw.elim
  | n + 1, v1, v2, v3, v4, I, L, hw, hE0 => by
    have ih := @sl_288_5 S d Q N T r E0 n
    unfold lw_288_5 at hw
    try dsimp only at hw
    refine am_E.run [19, 30] 2000 (show (if (6 : Int32) ≤ v4 then (am_E S 288 (d + 6) 0 0 30 [.ref 66, .int v1, .int v2, .int v3, .int v4] [] (N, am_ts T, I, L, am_rs r) Q) else (am_E S 288 (d + 6) 0 0 19 [.ref 66, .int v1, .int v2, .int v3, .int v4] [.int 0, .int v4, .int v2, .int v1, .ref 66, .int v3] (N, am_ts T, I, L, am_rs r) Q)) from ?_)
    by_cases hc : (6 : Int32) ≤ v4
    · rw [if_pos hc] at hw ⊢
      exact hE0 _ _ _ _ hw
    · rw [if_neg hc] at hw ⊢
      refine am_E.go ⟨am_ki_IL N T r _, s_234 hw (fun q1 I2 L3 hk => ⟨q1, I2, L3, rfl, rfl, hk⟩), ?_⟩
      intro v h9 hv
      obtain ⟨q1, I2, L3, rfl, rfl, hw⟩ := hv
      try dsimp only at hw
      refine am_E.run [5] 2000 (show (am_E S 288 (d + 6) 0 0 5 [.ref 66, .int v1, .int v2, .int (v3 + q1), .int (v4 + 1)] [] (N, am_ts T, I2, L3, am_rs r) Q) from ?_)
      exact ih hw hE0
/-- KeyKeepersModel.allWatches(II)I -/
def w_288 (x0 : Int32) (x1 : Int32) (I : am_I) (L : am_J) (K : Int32 → am_I → am_J → Prop) : Prop :=
  ∃ n5, lw_288_5 n5 x0 x1 0 0 I L (fun o4 o5 I6 L7 =>
    K o4 I6 L7)
set_option maxRecDepth 100000 in
theorem s_288 {S : am_S} {d : Nat} {N : Nat} {T : Nat → Nat × Nat} {I : am_I} {L : am_J} {r : Nat → Nat → Option Nat} {Q : am_Q} {x0 : Int32} {x1 : Int32} {K : Int32 → am_I → am_J → Prop} (hw : w_288 x0 x1 I L K) (hK : ∀ (q : Int32) (I1 : am_I) (L1 : am_J), K q I1 L1 → Q (some (.int q)) (N, am_ts T, I1, L1, am_rs r)) : am_E S 288 (d + 6) 0 0 0 [.ref 66, .int x0, .int x1, am_jk, am_jk] [] (N, am_ts T, I, L, am_rs r) Q := by
  unfold w_288 at hw
  try dsimp only at hw
  refine am_E.run [5] 2000 (show (am_E S 288 (d + 6) 0 0 5 [.ref 66, .int x0, .int x1, .int 0, .int 0] [] (N, am_ts T, I, L, am_rs r) Q) from ?_)
  obtain ⟨n5, hw⟩ := hw
  refine sl_288_5 n5 hw (fun o4 o5 I6 L7 hw => ?_)
  · try dsimp only at hw
    refine am_E.run [] 2000 (show (True ∧ Q (some (.int o4)) (N, am_ts T, I6, L7, am_rs r)) from ?_)
    exact ⟨trivial, hK _ _ _ hw⟩
/-- KeyKeepersModel.readSum(I)V -/
def w_293 (x0 : Int32) (I : am_I) (L : am_J) (K : am_I → am_J → Prop) : Prop :=
  ¬ (x0 < 0 ∨ 120 ≤ Int32.toNatClampNeg x0) ∧
  if (I 66 19) = 0 then
    w_213 0 (am_u I 97 (Int32.toNatClampNeg x0) (I 66 23)) L (fun I1 L2 =>
      ¬ ((x0 + 1) < 0 ∨ 120 ≤ Int32.toNatClampNeg (x0 + 1)) ∧
      K (am_u I1 97 (Int32.toNatClampNeg (x0 + 1)) (I1 66 23)) L2)
  else
    ¬ ((x0 + 1) < 0 ∨ 120 ≤ Int32.toNatClampNeg (x0 + 1)) ∧
    K (am_u (am_u I 97 (Int32.toNatClampNeg x0) (I 66 23)) 97 (Int32.toNatClampNeg (x0 + 1)) (I 66 23)) L
set_option maxRecDepth 100000 in
theorem s_293 {S : am_S} {d : Nat} {N : Nat} {T : Nat → Nat × Nat} {I : am_I} {L : am_J} {r : Nat → Nat → Option Nat} {Q : am_Q} {x0 : Int32} {K : am_I → am_J → Prop} (hw : w_293 x0 I L K) (hK : ∀ (I1 : am_I) (L1 : am_J), K I1 L1 → Q (none) (N, am_ts T, I1, L1, am_rs r)) : am_E S 293 (d + 7) 0 0 0 [.ref 66, .int x0] [] (N, am_ts T, I, L, am_rs r) Q := by
  unfold w_293 at hw
  try dsimp only at hw
  refine am_E.run [19] 2000 (show (if x0 < 0 ∨ 120 ≤ Int32.toNatClampNeg x0 then False else (if (I 66 19) = 0 then (am_E S 293 (d + 7) 0 0 19 [.ref 66, .int x0] [.int 0, .ref 66] (N, am_ts T, (am_u I 97 (Int32.toNatClampNeg x0) (I 66 23)), L, am_rs r) Q) else (if (x0 + 1) < 0 ∨ 120 ≤ Int32.toNatClampNeg (x0 + 1) then False else (True ∧ Q (none) (N, am_ts T, (am_u (am_u I 97 (Int32.toNatClampNeg x0) (I 66 23)) 97 (Int32.toNatClampNeg (x0 + 1)) (I 66 23)), L, am_rs r))))) from ?_)
  refine am_ifn hw.1 ?_
  replace hw := hw.2
  by_cases hc : (I 66 19) = 0
  · rw [if_pos hc] at hw ⊢
    refine am_E.go ⟨am_kv_IL N T r _, s_213 hw (fun I1 L2 hk => ⟨I1, L2, rfl, rfl, hk⟩), ?_⟩
    intro v h9 hv
    obtain ⟨I1, L2, rfl, rfl, hw⟩ := hv
    try dsimp only at hw
    refine am_E.run [] 2000 (show (if (x0 + 1) < 0 ∨ 120 ≤ Int32.toNatClampNeg (x0 + 1) then False else (True ∧ Q (none) (N, am_ts T, (am_u I1 97 (Int32.toNatClampNeg (x0 + 1)) (I1 66 23)), L2, am_rs r))) from ?_)
    refine am_ifn hw.1 ?_
    replace hw := hw.2
    exact ⟨trivial, hK _ _ hw⟩
  · rw [if_neg hc] at hw ⊢
    refine am_ifn hw.1 ?_
    replace hw := hw.2
    exact ⟨trivial, hK _ _ hw⟩
/-- KeyKeepersModel.readBehind(IJ)V -/
def w_294 (x0 : Int32) (x1 : Int64) (I : am_I) (L : am_J) (K : am_I → am_J → Prop) : Prop :=
  if (I 66 19) = 0 then
    w_212 (f_211 x1 I L) I L (fun I3 L4 =>
      w_293 x0 I3 L4 (fun I5 L6 =>
        K I5 L6))
  else
    w_293 x0 I L (fun I1 L2 =>
      K I1 L2)
set_option maxRecDepth 100000 in
theorem s_294 {S : am_S} {d : Nat} {N : Nat} {T : Nat → Nat × Nat} {I : am_I} {L : am_J} {r : Nat → Nat → Option Nat} {Q : am_Q} {x0 : Int32} {x1 : Int64} {K : am_I → am_J → Prop} (hw : w_294 x0 x1 I L K) (hK : ∀ (I1 : am_I) (L1 : am_J), K I1 L1 → Q (none) (N, am_ts T, I1, L1, am_rs r)) : am_E S 294 (d + 8) 0 0 0 [.ref 66, .int x0, .long x1, am_jk] [] (N, am_ts T, I, L, am_rs r) Q := by
  unfold w_294 at hw
  try dsimp only at hw
  refine am_E.run [10, 18] 2000 (show (if (I 66 19) = 0 then (am_E S 294 (d + 8) 0 0 10 [.ref 66, .int x0, .long x1, am_jk] [.long x1, .ref 66, .ref 66] (N, am_ts T, I, L, am_rs r) Q) else (am_E S 294 (d + 8) 0 0 18 [.ref 66, .int x0, .long x1, am_jk] [.int x0, .ref 66] (N, am_ts T, I, L, am_rs r) Q)) from ?_)
  by_cases hc : (I 66 19) = 0
  · rw [if_pos hc] at hw ⊢
    refine am_E.go ⟨fun v h9 => v = some (.int (f_211 x1 I L)) ∧ h9 = (N, am_ts T, I, L, am_rs r), s_211 ⟨rfl, rfl⟩, ?_⟩
    intro v h9 hv
    obtain ⟨rfl, rfl⟩ := hv
    show (am_E S 294 (d + 8) 0 0 13 [.ref 66, .int x0, .long x1, am_jk] [.int (f_211 x1 I L), .ref 66] (N, am_ts T, I, L, am_rs r) Q)
    refine am_E.go ⟨am_kv_IL N T r _, s_212 hw (fun I3 L4 hk => ⟨I3, L4, rfl, rfl, hk⟩), ?_⟩
    intro v h9 hv
    obtain ⟨I3, L4, rfl, rfl, hw⟩ := hv
    try dsimp only at hw
    refine am_E.run [18] 2000 (show (am_E S 294 (d + 8) 0 0 18 [.ref 66, .int x0, .long x1, am_jk] [.int x0, .ref 66] (N, am_ts T, I3, L4, am_rs r) Q) from ?_)
    refine am_E.go ⟨am_kv_IL N T r _, s_293 hw (fun I5 L6 hk => ⟨I5, L6, rfl, rfl, hk⟩), ?_⟩
    intro v h9 hv
    obtain ⟨I5, L6, rfl, rfl, hw⟩ := hv
    try dsimp only at hw
    refine am_E.run [] 2000 (show (True ∧ Q (none) (N, am_ts T, I5, L6, am_rs r)) from ?_)
    exact ⟨trivial, hK _ _ hw⟩
  · rw [if_neg hc] at hw ⊢
    refine am_E.go ⟨am_kv_IL N T r _, s_293 hw (fun I1 L2 hk => ⟨I1, L2, rfl, rfl, hk⟩), ?_⟩
    intro v h9 hv
    obtain ⟨I1, L2, rfl, rfl, hw⟩ := hv
    try dsimp only at hw
    refine am_E.run [] 2000 (show (True ∧ Q (none) (N, am_ts T, I1, L2, am_rs r)) from ?_)
    exact ⟨trivial, hK _ _ hw⟩
def lw_44_49 : Nat → Int32 → Int32 → Int32 → am_I → (Int32 → Int32 → Prop) → Prop
  | 0, _, _, _, _, _ => False
  | n + 1, v2, v3, v4, I, E0 =>
    if v2 ≤ v4 then
      E0 v3 v4
    else
      ¬ (v4 < 0 ∨ 400 ≤ Int32.toNatClampNeg v4) ∧
      lw_44_49 n v2 (if (((v3 * 10) + (I 15 (Int32.toNatClampNeg v4))) - 48) < (100000 : Int32) then (((v3 * 10) + (I 15 (Int32.toNatClampNeg v4))) - 48) else (100000 : Int32)) (v4 + 1) I E0
set_option maxRecDepth 100000 in
theorem sl_44_49 {S : am_S} {d : Nat} {Q : am_Q} {N : Nat} {T : Nat → Nat × Nat} {I : am_I} {L : am_J} {r : Nat → Nat → Option Nat} {E0 : Int32 → Int32 → Prop} : ∀ (n : Nat) {v2 : Int32} {v3 : Int32} {v4 : Int32}, lw_44_49 n v2 v3 v4 I E0 → (∀ (o3 : Int32) (o4 : Int32), E0 o3 o4 → am_E S 44 (d + 6) 0 0 82 [.ref 14, am_jk, .int v2, .int o3, .int o4] [] (N, am_ts T, I, L, am_rs r) Q) → am_E S 44 (d + 6) 0 0 49 [.ref 14, am_jk, .int v2, .int v3, .int v4] [] (N, am_ts T, I, L, am_rs r) Q
  | 0, _, _, _, hw, _ => hw.elim
  | n + 1, v2, v3, v4, hw, hE0 => by
    have ih := @sl_44_49 S d Q N T I L r E0 n
    unfold lw_44_49 at hw
    try dsimp only at hw
    refine am_E.run [49, 82] 2000 (show (if v2 ≤ v4 then (am_E S 44 (d + 6) 0 0 82 [.ref 14, am_jk, .int v2, .int v3, .int v4] [] (N, am_ts T, I, L, am_rs r) Q) else (if v4 < 0 ∨ 400 ≤ Int32.toNatClampNeg v4 then False else (am_E S 44 (d + 6) 0 0 49 [.ref 14, am_jk, .int v2, .int (if (((v3 * 10) + (I 15 (Int32.toNatClampNeg v4))) - 48) < (100000 : Int32) then (((v3 * 10) + (I 15 (Int32.toNatClampNeg v4))) - 48) else (100000 : Int32)), .int (v4 + 1)] [] (N, am_ts T, I, L, am_rs r) Q))) from ?_)
    by_cases hc : v2 ≤ v4
    · rw [if_pos hc] at hw ⊢
      exact hE0 _ _ hw
    · rw [if_neg hc] at hw ⊢
      refine am_ifn hw.1 ?_
      replace hw := hw.2
      exact ih hw hE0
/-- KeyKeepers$Reader.tokenOf(II)I -/
def w_44 (x0 : Int32) (x1 : Int32) (I : am_I) (K : Int32 → Prop) : Prop :=
  ¬ (x0 < 0 ∨ 400 ≤ Int32.toNatClampNeg x0) ∧
  if (f_42 (I 15 (Int32.toNatClampNeg x0))) = 0 then
    ¬ (x0 < 0 ∨ 400 ≤ Int32.toNatClampNeg x0) ∧
    if (f_43 (I 15 (Int32.toNatClampNeg x0))) = 0 then
      ¬ (x0 < 0 ∨ 400 ≤ Int32.toNatClampNeg x0) ∧
      K (2000000 + (I 15 (Int32.toNatClampNeg x0)))
    else
      ∃ n49, lw_44_49 n49 x1 0 x0 I (fun o1 o2 =>
        K o1)
  else
    w_45 x0 x1 I (fun q3 =>
      K (1000000 + q3))
set_option maxRecDepth 100000 in
theorem s_44 {S : am_S} {d : Nat} {N : Nat} {T : Nat → Nat × Nat} {I : am_I} {L : am_J} {r : Nat → Nat → Option Nat} {Q : am_Q} {x0 : Int32} {x1 : Int32} {K : Int32 → Prop} (hw : w_44 x0 x1 I K) (hK : ∀ (q : Int32), K q → Q (some (.int q)) (N, am_ts T, I, L, am_rs r)) : am_E S 44 (d + 6) 0 0 0 [.ref 14, .int x0, .int x1, am_jk, am_jk] [] (N, am_ts T, I, L, am_rs r) Q := by
  unfold w_44 at hw
  try dsimp only at hw
  refine am_E.run [6] 2000 (show (if x0 < 0 ∨ 400 ≤ Int32.toNatClampNeg x0 then False else (am_E S 44 (d + 6) 0 0 6 [.ref 14, .int x0, .int x1, am_jk, am_jk] [.int (I 15 (Int32.toNatClampNeg x0))] (N, am_ts T, I, L, am_rs r) Q)) from ?_)
  refine am_ifn hw.1 ?_
  replace hw := hw.2
  refine am_E.go ⟨fun v h9 => v = some (.int (f_42 (I 15 (Int32.toNatClampNeg x0)))) ∧ h9 = (N, am_ts T, I, L, am_rs r), s_42 ⟨rfl, rfl⟩, ?_⟩
  intro v h9 hv
  obtain ⟨rfl, rfl⟩ := hv
  refine am_E.run [17, 28] 2000 (show (if (f_42 (I 15 (Int32.toNatClampNeg x0))) = 0 then (if x0 < 0 ∨ 400 ≤ Int32.toNatClampNeg x0 then False else (am_E S 44 (d + 6) 0 0 28 [.ref 14, .int x0, .int x1, am_jk, am_jk] [.int (I 15 (Int32.toNatClampNeg x0))] (N, am_ts T, I, L, am_rs r) Q)) else (am_E S 44 (d + 6) 0 0 17 [.ref 14, .int x0, .int x1, am_jk, am_jk] [.int x1, .int x0, .ref 14, .int 1000000] (N, am_ts T, I, L, am_rs r) Q)) from ?_)
  by_cases hc : (f_42 (I 15 (Int32.toNatClampNeg x0))) = 0
  · rw [if_pos hc] at hw ⊢
    refine am_ifn hw.1 ?_
    replace hw := hw.2
    refine am_E.go ⟨fun v h9 => v = some (.int (f_43 (I 15 (Int32.toNatClampNeg x0)))) ∧ h9 = (N, am_ts T, I, L, am_rs r), s_43 ⟨rfl, rfl⟩, ?_⟩
    intro v h9 hv
    obtain ⟨rfl, rfl⟩ := hv
    refine am_E.run [49] 2000 (show (if (f_43 (I 15 (Int32.toNatClampNeg x0))) = 0 then (if x0 < 0 ∨ 400 ≤ Int32.toNatClampNeg x0 then False else (True ∧ Q (some (.int (2000000 + (I 15 (Int32.toNatClampNeg x0))))) (N, am_ts T, I, L, am_rs r))) else (am_E S 44 (d + 6) 0 0 49 [.ref 14, .int x0, .int x1, .int 0, .int x0] [] (N, am_ts T, I, L, am_rs r) Q)) from ?_)
    by_cases hc : (f_43 (I 15 (Int32.toNatClampNeg x0))) = 0
    · rw [if_pos hc] at hw ⊢
      refine am_ifn hw.1 ?_
      replace hw := hw.2
      exact ⟨trivial, hK _ hw⟩
    · rw [if_neg hc] at hw ⊢
      obtain ⟨n49, hw⟩ := hw
      refine am_E.junk (lo := [.ref 14, am_jk, .int x1, .int 0, .int x0]) ?_ (am_le.cons (am_le.jk (am_le.cons (am_le.cons (am_le.cons am_le.nil)))))
      refine sl_44_49 n49 hw (fun o1 o2 hw => ?_)
      · try dsimp only at hw
        refine am_E.run [] 2000 (show (True ∧ Q (some (.int o1)) (N, am_ts T, I, L, am_rs r)) from ?_)
        exact ⟨trivial, hK _ hw⟩
  · rw [if_neg hc] at hw ⊢
    refine am_E.go ⟨am_ki_ N T I L r _, s_45 hw (fun q3 hk => ⟨q3, rfl, rfl, hk⟩), ?_⟩
    intro v h9 hv
    obtain ⟨q3, rfl, rfl, hw⟩ := hv
    try dsimp only at hw
    refine am_E.run [] 2000 (show (True ∧ Q (some (.int (1000000 + q3))) (N, am_ts T, I, L, am_rs r)) from ?_)
    exact ⟨trivial, hK _ hw⟩
def lw_79_29 : Nat → Int32 → Nat → (Nat → Nat × Nat) → (Nat → Nat → Option Nat) → am_I → (Int32 → Nat → (Nat → Nat × Nat) → (Nat → Nat → Option Nat) → am_I → Prop) → (Int32 → Nat → (Nat → Nat × Nat) → (Nat → Nat → Option Nat) → am_I → Prop) → Prop
  | 0, _, _, _, _, _, _, _ => False
  | n + 1, v5, N, T, r, I, E0, R =>
    if (I 16 2) ≤ v5 then
      E0 v5 N T r I
    else
      w_82 v5 T r I (fun q4 I5 =>
        if q4 = 0 then
          w_80 1 36 N T r I5 (fun N6 T6 r6 I7 =>
            w_81 29 48 T6 r6 I7 (fun I8 =>
              R 0 N6 T6 r6 (am_u I8 35 1 v5)))
        else
          lw_79_29 n (v5 + 1) N T r I5 E0 R)
set_option maxRecDepth 100000 in
theorem sl_79_29 {S : am_S} {d : Nat} {Q : am_Q} {L : am_J} {E0 : Int32 → Nat → (Nat → Nat × Nat) → (Nat → Nat → Option Nat) → am_I → Prop} {R : Int32 → Nat → (Nat → Nat × Nat) → (Nat → Nat → Option Nat) → am_I → Prop} : ∀ (n : Nat) {v5 : Int32} {N : Nat} {T : Nat → Nat × Nat} {r : Nat → Nat → Option Nat} {I : am_I}, lw_79_29 n v5 N T r I E0 R → (∀ (o5 : Int32) (N1 : Nat) (T1 : Nat → Nat × Nat) (r1 : Nat → Nat → Option Nat) (I1 : am_I), E0 o5 N1 T1 r1 I1 → am_E S 79 (d + 6) 0 0 82 [.ref 35, .ref 1, .ref 29, .ref 16, .ref 24, .int o5] [] (N1, am_ts T1, I1, L, am_rs r1) Q) → (∀ (q : Int32) (N1 : Nat) (T1 : Nat → Nat × Nat) (r1 : Nat → Nat → Option Nat) (I1 : am_I), R q N1 T1 r1 I1 → Q (some (.int q)) (N1, am_ts T1, I1, L, am_rs r1)) → am_E S 79 (d + 6) 0 0 29 [.ref 35, .ref 1, .ref 29, .ref 16, .ref 24, .int v5] [] (N, am_ts T, I, L, am_rs r) Q
  | 0, _, _, _, _, _, hw, _, _ => hw.elim
  | n + 1, v5, N, T, r, I, hw, hE0, hR => by
    have ih := @sl_79_29 S d Q L E0 R n
    unfold lw_79_29 at hw
    try dsimp only at hw
    refine am_E.run [46, 82] 2000 (show (if (I 16 2) ≤ v5 then (am_E S 79 (d + 6) 0 0 82 [.ref 35, .ref 1, .ref 29, .ref 16, .ref 24, .int v5] [] (N, am_ts T, I, L, am_rs r) Q) else (am_E S 79 (d + 6) 0 0 46 [.ref 35, .ref 1, .ref 29, .ref 16, .ref 24, .int v5] [.ref 24, .int v5, .ref 16, .ref 29, .ref 1, .ref 35] (N, am_ts T, I, L, am_rs r) Q)) from ?_)
    by_cases hc : (I 16 2) ≤ v5
    · rw [if_pos hc] at hw ⊢
      exact hE0 _ _ _ _ _ hw
    · rw [if_neg hc] at hw ⊢
      refine am_E.go ⟨am_ki_I N T L r _, s_82 hw (fun q4 I5 hk => ⟨q4, I5, rfl, rfl, hk⟩), ?_⟩
      intro v h9 hv
      obtain ⟨q4, I5, rfl, rfl, hw⟩ := hv
      try dsimp only at hw
      refine am_E.run [29, 57] 2000 (show (if q4 = 0 then (am_E S 79 (d + 6) 0 0 57 [.ref 35, .ref 1, .ref 29, .ref 16, .ref 24, .int v5] [.ref 36, .ref 1] (N, am_ts T, I5, L, am_rs r) Q) else (am_E S 79 (d + 6) 0 0 29 [.ref 35, .ref 1, .ref 29, .ref 16, .ref 24, .int (v5 + 1)] [] (N, am_ts T, I5, L, am_rs r) Q)) from ?_)
      by_cases hc : q4 = 0
      · rw [if_pos hc] at hw ⊢
        refine am_E.go ⟨am_kv_NTrI L _, s_80 hw (fun N6 T6 r6 I7 hk => ⟨N6, T6, r6, I7, rfl, rfl, hk⟩), ?_⟩
        intro v h9 hv
        obtain ⟨N6, T6, r6, I7, rfl, rfl, hw⟩ := hv
        try dsimp only at hw
        refine am_E.run [65] 2000 (show (am_E S 79 (d + 6) 0 0 65 [.ref 35, .ref 1, .ref 29, .ref 16, .ref 24, .int v5] [.ref 48, .ref 29] (N6, am_ts T6, I7, L, am_rs r6) Q) from ?_)
        refine am_E.go ⟨am_kv_I N6 T6 L r6 _, s_81 hw (fun I8 hk => ⟨I8, rfl, rfl, hk⟩), ?_⟩
        intro v h9 hv
        obtain ⟨I8, rfl, rfl, hw⟩ := hv
        try dsimp only at hw
        refine am_E.run [] 2000 (show (((0 : Int32) = 0 ∨ (0 : Int32) = 1) ∧ Q (some (.int 0)) (N6, am_ts T6, (am_u I8 35 1 v5), L, am_rs r6)) from ?_)
        exact ⟨Or.inl rfl, hR _ _ _ _ _ hw⟩
      · rw [if_neg hc] at hw ⊢
        exact ih hw hE0 hR
/-- KeyKeepers$Sergeant.obeys(LKeyKeepers$Prison;LKeyKeepers$Goings;LKeyKeepers$Text;LKeyKeepers$Machine;)Z -/
def w_79 (N : Nat) (T : Nat → Nat × Nat) (r : Nat → Nat → Option Nat) (I : am_I) (K : Int32 → Nat → (Nat → Nat × Nat) → (Nat → Nat → Option Nat) → am_I → Prop) : Prop :=
  w_80 36 1 N T r I (fun N1 T1 r1 I2 =>
    w_81 48 29 T1 r1 I2 (fun I3 =>
      ∃ n29, lw_79_29 n29 0 N1 T1 r1 (am_u (am_u I3 35 0 0) 35 2 (-1)) (fun o9 N11 T11 r11 I10 =>
        K 1 N11 T11 r11 I10) K))
set_option maxRecDepth 100000 in
theorem s_79 {S : am_S} {d : Nat} {N : Nat} {T : Nat → Nat × Nat} {I : am_I} {L : am_J} {r : Nat → Nat → Option Nat} {Q : am_Q} {K : Int32 → Nat → (Nat → Nat × Nat) → (Nat → Nat → Option Nat) → am_I → Prop} (hw : w_79 N T r I K) (hK : ∀ (q : Int32) (N1 : Nat) (T1 : Nat → Nat × Nat) (r1 : Nat → Nat → Option Nat) (I1 : am_I), K q N1 T1 r1 I1 → Q (some (.int q)) (N1, am_ts T1, I1, L, am_rs r1)) : am_E S 79 (d + 6) 0 0 0 [.ref 35, .ref 1, .ref 29, .ref 16, .ref 24, am_jk] [] (N, am_ts T, I, L, am_rs r) Q := by
  unfold w_79 at hw
  try dsimp only at hw
  refine am_E.run [5] 2000 (show (am_E S 79 (d + 6) 0 0 5 [.ref 35, .ref 1, .ref 29, .ref 16, .ref 24, am_jk] [.ref 1, .ref 36] (N, am_ts T, I, L, am_rs r) Q) from ?_)
  refine am_E.go ⟨am_kv_NTrI L _, s_80 hw (fun N1 T1 r1 I2 hk => ⟨N1, T1, r1, I2, rfl, rfl, hk⟩), ?_⟩
  intro v h9 hv
  obtain ⟨N1, T1, r1, I2, rfl, rfl, hw⟩ := hv
  try dsimp only at hw
  refine am_E.run [13] 2000 (show (am_E S 79 (d + 6) 0 0 13 [.ref 35, .ref 1, .ref 29, .ref 16, .ref 24, am_jk] [.ref 29, .ref 48] (N1, am_ts T1, I2, L, am_rs r1) Q) from ?_)
  refine am_E.go ⟨am_kv_I N1 T1 L r1 _, s_81 hw (fun I3 hk => ⟨I3, rfl, rfl, hk⟩), ?_⟩
  intro v h9 hv
  obtain ⟨I3, rfl, rfl, hw⟩ := hv
  try dsimp only at hw
  refine am_E.run [29] 2000 (show (am_E S 79 (d + 6) 0 0 29 [.ref 35, .ref 1, .ref 29, .ref 16, .ref 24, .int 0] [] (N1, am_ts T1, (am_u (am_u I3 35 0 0) 35 2 (-1)), L, am_rs r1) Q) from ?_)
  obtain ⟨n29, hw⟩ := hw
  refine sl_79_29 n29 hw (fun o9 N11 T11 r11 I10 hw => ?_) hK
  · try dsimp only at hw
    refine am_E.run [] 2000 (show (((1 : Int32) = 0 ∨ (1 : Int32) = 1) ∧ Q (some (.int 1)) (N11, am_ts T11, I10, L, am_rs r11)) from ?_)
    exact ⟨Or.inr rfl, hK _ _ _ _ _ hw⟩
def lw_210_4 : Nat → Int32 → Int32 → am_I → am_J → (Int32 → Int32 → Prop) → Prop
  | 0, _, _, _, _, _ => False
  | n + 1, v1, v2, I, L, E0 =>
    if (4 : Int32) ≤ v2 then
      E0 v1 v2
    else
      ¬ (v2 < 0 ∨ 4 ≤ Int32.toNatClampNeg v2) ∧
      if (f_211 (L 83 (Int32.toNatClampNeg v2)) I L) = 0 then
        lw_210_4 n v1 (v2 + 1) I L E0
      else
        lw_210_4 n v2 (v2 + 1) I L E0
set_option maxHeartbeats 6000000 in
set_option maxRecDepth 100000 in
theorem sl_210_4 {S : am_S} {d : Nat} {Q : am_Q} {N : Nat} {T : Nat → Nat × Nat} {I : am_I} {L : am_J} {r : Nat → Nat → Option Nat} {E0 : Int32 → Int32 → Prop} : ∀ (n : Nat) {v1 : Int32} {v2 : Int32}, lw_210_4 n v1 v2 I L E0 → (∀ (o1 : Int32) (o2 : Int32), E0 o1 o2 → am_E S 210 (d + 7) 0 0 34 [.ref 66, .int o1, .int o2, am_jk] [] (N, am_ts T, I, L, am_rs r) Q) → am_E S 210 (d + 7) 0 0 4 [.ref 66, .int v1, .int v2, am_jk] [] (N, am_ts T, I, L, am_rs r) Q
  | 0, _, _, hw, _ => hw.elim
  | n + 1, v1, v2, hw, hE0 => by
    have ih := @sl_210_4 S d Q N T I L r E0 n
    unfold lw_210_4 at hw
    try dsimp only at hw
    refine am_E.run [16, 34] 2000 (show (if (4 : Int32) ≤ v2 then (am_E S 210 (d + 7) 0 0 34 [.ref 66, .int v1, .int v2, am_jk] [] (N, am_ts T, I, L, am_rs r) Q) else (if v2 < 0 ∨ 4 ≤ Int32.toNatClampNeg v2 then False else (am_E S 210 (d + 7) 0 0 16 [.ref 66, .int v1, .int v2, am_jk] [.long (L 83 (Int32.toNatClampNeg v2)), .ref 66] (N, am_ts T, I, L, am_rs r) Q))) from ?_)
    by_cases hc : (4 : Int32) ≤ v2
    · rw [if_pos hc] at hw ⊢
      exact hE0 _ _ hw
    · rw [if_neg hc] at hw ⊢
      refine am_ifn hw.1 ?_
      replace hw := hw.2
      refine am_E.go ⟨fun v h9 => v = some (.int (f_211 (L 83 (Int32.toNatClampNeg v2)) I L)) ∧ h9 = (N, am_ts T, I, L, am_rs r), s_211 ⟨rfl, rfl⟩, ?_⟩
      intro v h9 hv
      obtain ⟨rfl, rfl⟩ := hv
      refine am_E.run [4] 2000 (show (if (f_211 (L 83 (Int32.toNatClampNeg v2)) I L) = 0 then (am_E S 210 (d + 7) 0 0 4 [.ref 66, .int v1, .int (v2 + 1), am_jk] [] (N, am_ts T, I, L, am_rs r) Q) else (am_E S 210 (d + 7) 0 0 4 [.ref 66, .int v2, .int (v2 + 1), am_jk] [] (N, am_ts T, I, L, am_rs r) Q)) from ?_)
      by_cases hc : (f_211 (L 83 (Int32.toNatClampNeg v2)) I L) = 0
      · rw [if_pos hc] at hw ⊢
        exact ih hw hE0
      · rw [if_neg hc] at hw ⊢
        exact ih hw hE0
def lw_210_75 : Nat → Int32 → Int32 → Int32 → am_I → am_J → (Int32 → am_I → Prop) → Prop
  | 0, _, _, _, _, _, _ => False
  | n + 1, v1, v2, v3, I, L, E0 =>
    if (8 : Int32) ≤ v3 then
      E0 v3 I
    else
      ¬ ((v2 + v3) < 0 ∨ 96 ≤ Int32.toNatClampNeg (v2 + v3)) ∧
      lw_210_75 n v1 v2 (v3 + 1) (am_u I 76 (Int32.toNatClampNeg (v2 + v3)) 0) L E0
set_option maxHeartbeats 6000000 in
set_option maxRecDepth 100000 in
theorem sl_210_75 {S : am_S} {d : Nat} {Q : am_Q} {N : Nat} {T : Nat → Nat × Nat} {L : am_J} {r : Nat → Nat → Option Nat} {E0 : Int32 → am_I → Prop} : ∀ (n : Nat) {v1 : Int32} {v2 : Int32} {v3 : Int32} {I : am_I}, lw_210_75 n v1 v2 v3 I L E0 → (∀ (o3 : Int32) (I1 : am_I), E0 o3 I1 → am_E S 210 (d + 7) 0 0 96 [.ref 66, .int v1, .int v2, .int o3] [] (N, am_ts T, I1, L, am_rs r) Q) → am_E S 210 (d + 7) 0 0 75 [.ref 66, .int v1, .int v2, .int v3] [] (N, am_ts T, I, L, am_rs r) Q
  | 0, _, _, _, _, hw, _ => hw.elim
  | n + 1, v1, v2, v3, I, hw, hE0 => by
    have ih := @sl_210_75 S d Q N T L r E0 n
    unfold lw_210_75 at hw
    try dsimp only at hw
    refine am_E.run [75, 96] 2000 (show (if (8 : Int32) ≤ v3 then (am_E S 210 (d + 7) 0 0 96 [.ref 66, .int v1, .int v2, .int v3] [] (N, am_ts T, I, L, am_rs r) Q) else (if (v2 + v3) < 0 ∨ 96 ≤ Int32.toNatClampNeg (v2 + v3) then False else (am_E S 210 (d + 7) 0 0 75 [.ref 66, .int v1, .int v2, .int (v3 + 1)] [] (N, am_ts T, (am_u I 76 (Int32.toNatClampNeg (v2 + v3)) 0), L, am_rs r) Q))) from ?_)
    by_cases hc : (8 : Int32) ≤ v3
    · rw [if_pos hc] at hw ⊢
      exact hE0 _ _ hw
    · rw [if_neg hc] at hw ⊢
      refine am_ifn hw.1 ?_
      replace hw := hw.2
      exact ih hw hE0
def wb_210_135 (v2 : Int32) (I : am_I) (L : am_J) (K : am_I → am_J → Prop) : Prop :=
  ¬ ((v2 + 4) < 0 ∨ 96 ≤ Int32.toNatClampNeg (v2 + 4)) ∧
  ¬ ((v2 + 5) < 0 ∨ 96 ≤ Int32.toNatClampNeg (v2 + 5)) ∧
  if (I 66 19) = 0 then
    if (f_211 294 (am_u (am_u I 76 (Int32.toNatClampNeg (v2 + 4)) (I 66 23)) 76 (Int32.toNatClampNeg (v2 + 5)) (I 66 23)) L) = 0 then
      ¬ ((v2 + 6) < 0 ∨ 96 ≤ Int32.toNatClampNeg (v2 + 6)) ∧
      K (am_u (am_u (am_u I 76 (Int32.toNatClampNeg (v2 + 4)) (I 66 23)) 76 (Int32.toNatClampNeg (v2 + 5)) (I 66 23)) 76 (Int32.toNatClampNeg (v2 + 6)) (I 66 23)) L
    else
      w_207 (am_u (am_u I 76 (Int32.toNatClampNeg (v2 + 4)) (I 66 23)) 76 (Int32.toNatClampNeg (v2 + 5)) (I 66 23)) L (fun I7 L8 =>
        w_213 1 I7 L8 (fun I9 L10 =>
          ¬ ((v2 + 6) < 0 ∨ 96 ≤ Int32.toNatClampNeg (v2 + 6)) ∧
          K (am_u I9 76 (Int32.toNatClampNeg (v2 + 6)) (I9 66 23)) L10))
  else
    ¬ ((v2 + 6) < 0 ∨ 96 ≤ Int32.toNatClampNeg (v2 + 6)) ∧
    K (am_u (am_u (am_u I 76 (Int32.toNatClampNeg (v2 + 4)) (I 66 23)) 76 (Int32.toNatClampNeg (v2 + 5)) (I 66 23)) 76 (Int32.toNatClampNeg (v2 + 6)) (I 66 23)) L
set_option maxHeartbeats 6000000 in
set_option maxRecDepth 100000 in
theorem sb_210_135 {S : am_S} {d : Nat} {N : Nat} {T : Nat → Nat × Nat} {I : am_I} {L : am_J} {r : Nat → Nat → Option Nat} {Q : am_Q} {v2 : Int32} {K : am_I → am_J → Prop} (hw : wb_210_135 v2 I L K) (hK : ∀ (I1 : am_I) (L1 : am_J), K I1 L1 → Q (none) (N, am_ts T, I1, L1, am_rs r)) : am_E S 210 (d + 7) 0 0 135 [.ref 66, am_jk, .int v2, am_jk] [] (N, am_ts T, I, L, am_rs r) Q := by
  unfold wb_210_135 at hw
  try dsimp only at hw
  refine am_E.run [170] 2000 (show (if (v2 + 4) < 0 ∨ 96 ≤ Int32.toNatClampNeg (v2 + 4) then False else (if (v2 + 5) < 0 ∨ 96 ≤ Int32.toNatClampNeg (v2 + 5) then False else (if (I 66 19) = 0 then (am_E S 210 (d + 7) 0 0 170 [.ref 66, am_jk, .int v2, am_jk] [.long 294, .ref 66] (N, am_ts T, (am_u (am_u I 76 (Int32.toNatClampNeg (v2 + 4)) (I 66 23)) 76 (Int32.toNatClampNeg (v2 + 5)) (I 66 23)), L, am_rs r) Q) else (if (v2 + 6) < 0 ∨ 96 ≤ Int32.toNatClampNeg (v2 + 6) then False else (True ∧ Q (none) (N, am_ts T, (am_u (am_u (am_u I 76 (Int32.toNatClampNeg (v2 + 4)) (I 66 23)) 76 (Int32.toNatClampNeg (v2 + 5)) (I 66 23)) 76 (Int32.toNatClampNeg (v2 + 6)) (I 66 23)), L, am_rs r)))))) from ?_)
  refine am_ifn hw.1 ?_
  replace hw := hw.2
  refine am_ifn hw.1 ?_
  replace hw := hw.2
  by_cases hc : (I 66 19) = 0
  · rw [if_pos hc] at hw ⊢
    refine am_E.go ⟨fun v h9 => v = some (.int (f_211 294 (am_u (am_u I 76 (Int32.toNatClampNeg (v2 + 4)) (I 66 23)) 76 (Int32.toNatClampNeg (v2 + 5)) (I 66 23)) L)) ∧ h9 = (N, am_ts T, (am_u (am_u I 76 (Int32.toNatClampNeg (v2 + 4)) (I 66 23)) 76 (Int32.toNatClampNeg (v2 + 5)) (I 66 23)), L, am_rs r), s_211 ⟨rfl, rfl⟩, ?_⟩
    intro v h9 hv
    obtain ⟨rfl, rfl⟩ := hv
    refine am_E.run [177] 2000 (show (if (f_211 294 (am_u (am_u I 76 (Int32.toNatClampNeg (v2 + 4)) (I 66 23)) 76 (Int32.toNatClampNeg (v2 + 5)) (I 66 23)) L) = 0 then (if (v2 + 6) < 0 ∨ 96 ≤ Int32.toNatClampNeg (v2 + 6) then False else (True ∧ Q (none) (N, am_ts T, (am_u (am_u (am_u I 76 (Int32.toNatClampNeg (v2 + 4)) (I 66 23)) 76 (Int32.toNatClampNeg (v2 + 5)) (I 66 23)) 76 (Int32.toNatClampNeg (v2 + 6)) (I 66 23)), L, am_rs r))) else (am_E S 210 (d + 7) 0 0 177 [.ref 66, am_jk, .int v2, am_jk] [.ref 66] (N, am_ts T, (am_u (am_u I 76 (Int32.toNatClampNeg (v2 + 4)) (I 66 23)) 76 (Int32.toNatClampNeg (v2 + 5)) (I 66 23)), L, am_rs r) Q)) from ?_)
    by_cases hc : (f_211 294 (am_u (am_u I 76 (Int32.toNatClampNeg (v2 + 4)) (I 66 23)) 76 (Int32.toNatClampNeg (v2 + 5)) (I 66 23)) L) = 0
    · rw [if_pos hc] at hw ⊢
      refine am_ifn hw.1 ?_
      replace hw := hw.2
      exact ⟨trivial, hK _ _ hw⟩
    · rw [if_neg hc] at hw ⊢
      refine am_E.go ⟨am_kv_IL N T r _, s_207 hw (fun I7 L8 hk => ⟨I7, L8, rfl, rfl, hk⟩), ?_⟩
      intro v h9 hv
      obtain ⟨I7, L8, rfl, rfl, hw⟩ := hv
      try dsimp only at hw
      refine am_E.run [182] 2000 (show (am_E S 210 (d + 7) 0 0 182 [.ref 66, am_jk, .int v2, am_jk] [.int 1, .ref 66] (N, am_ts T, I7, L8, am_rs r) Q) from ?_)
      refine am_E.go ⟨am_kv_IL N T r _, s_213 hw (fun I9 L10 hk => ⟨I9, L10, rfl, rfl, hk⟩), ?_⟩
      intro v h9 hv
      obtain ⟨I9, L10, rfl, rfl, hw⟩ := hv
      try dsimp only at hw
      refine am_E.run [] 2000 (show (if (v2 + 6) < 0 ∨ 96 ≤ Int32.toNatClampNeg (v2 + 6) then False else (True ∧ Q (none) (N, am_ts T, (am_u I9 76 (Int32.toNatClampNeg (v2 + 6)) (I9 66 23)), L10, am_rs r))) from ?_)
      refine am_ifn hw.1 ?_
      replace hw := hw.2
      exact ⟨trivial, hK _ _ hw⟩
  · rw [if_neg hc] at hw ⊢
    refine am_ifn hw.1 ?_
    replace hw := hw.2
    exact ⟨trivial, hK _ _ hw⟩
def wb_210_54 (v1 : Int32) (s1 : Int32) (I : am_I) (L : am_J) (K : am_I → am_J → Prop) : Prop :=
  w_212 s1 I L (fun I3 L4 =>
    if (I3 66 19) = 0 then
      ∃ n75, lw_210_75 n75 v1 (8 * (I3 66 21)) 0 I3 L4 (fun o5 I6 =>
        ¬ ((8 * (I3 66 21)) < 0 ∨ 96 ≤ Int32.toNatClampNeg (8 * (I3 66 21))) ∧
        ¬ (((8 * (I3 66 21)) + 3) < 0 ∨ 96 ≤ Int32.toNatClampNeg ((8 * (I3 66 21)) + 3)) ∧
        if v1 = 3 then
          wb_210_135 (8 * (I3 66 21)) (am_u (am_u (am_u I6 76 (Int32.toNatClampNeg (8 * (I3 66 21))) v1) 66 21 ((I6 66 21) + 1)) 76 (Int32.toNatClampNeg ((8 * (I3 66 21)) + 3)) (I6 66 23)) L4 K
        else
          w_213 0 (am_u (am_u (am_u I6 76 (Int32.toNatClampNeg (8 * (I3 66 21))) v1) 66 21 ((I6 66 21) + 1)) 76 (Int32.toNatClampNeg ((8 * (I3 66 21)) + 3)) (I6 66 23)) L4 (fun I11 L12 =>
            ¬ (((8 * (I3 66 21)) + 4) < 0 ∨ 96 ≤ Int32.toNatClampNeg ((8 * (I3 66 21)) + 4)) ∧
            ¬ (((8 * (I3 66 21)) + 5) < 0 ∨ 96 ≤ Int32.toNatClampNeg ((8 * (I3 66 21)) + 5)) ∧
            if (I11 66 19) = 0 then
              if (f_211 294 (am_u (am_u I11 76 (Int32.toNatClampNeg ((8 * (I3 66 21)) + 4)) (I11 66 23)) 76 (Int32.toNatClampNeg ((8 * (I3 66 21)) + 5)) (I11 66 23)) L12) = 0 then
                ¬ (((8 * (I3 66 21)) + 6) < 0 ∨ 96 ≤ Int32.toNatClampNeg ((8 * (I3 66 21)) + 6)) ∧
                K (am_u (am_u (am_u I11 76 (Int32.toNatClampNeg ((8 * (I3 66 21)) + 4)) (I11 66 23)) 76 (Int32.toNatClampNeg ((8 * (I3 66 21)) + 5)) (I11 66 23)) 76 (Int32.toNatClampNeg ((8 * (I3 66 21)) + 6)) (I11 66 23)) L12
              else
                w_207 (am_u (am_u I11 76 (Int32.toNatClampNeg ((8 * (I3 66 21)) + 4)) (I11 66 23)) 76 (Int32.toNatClampNeg ((8 * (I3 66 21)) + 5)) (I11 66 23)) L12 (fun I13 L14 =>
                  w_213 1 I13 L14 (fun I15 L16 =>
                    ¬ (((8 * (I3 66 21)) + 6) < 0 ∨ 96 ≤ Int32.toNatClampNeg ((8 * (I3 66 21)) + 6)) ∧
                    K (am_u I15 76 (Int32.toNatClampNeg ((8 * (I3 66 21)) + 6)) (I15 66 23)) L16))
            else
              ¬ (((8 * (I3 66 21)) + 6) < 0 ∨ 96 ≤ Int32.toNatClampNeg ((8 * (I3 66 21)) + 6)) ∧
              K (am_u (am_u (am_u I11 76 (Int32.toNatClampNeg ((8 * (I3 66 21)) + 4)) (I11 66 23)) 76 (Int32.toNatClampNeg ((8 * (I3 66 21)) + 5)) (I11 66 23)) 76 (Int32.toNatClampNeg ((8 * (I3 66 21)) + 6)) (I11 66 23)) L12))
    else
      K I3 L4)
set_option maxHeartbeats 6000000 in
set_option maxRecDepth 100000 in
theorem sb_210_54 {S : am_S} {d : Nat} {N : Nat} {T : Nat → Nat × Nat} {I : am_I} {L : am_J} {r : Nat → Nat → Option Nat} {Q : am_Q} {v1 : Int32} {s1 : Int32} {K : am_I → am_J → Prop} (hw : wb_210_54 v1 s1 I L K) (hK : ∀ (I1 : am_I) (L1 : am_J), K I1 L1 → Q (none) (N, am_ts T, I1, L1, am_rs r)) : am_E S 210 (d + 7) 0 0 54 [.ref 66, .int v1, am_jk, am_jk] [.int s1, .ref 66] (N, am_ts T, I, L, am_rs r) Q := by
  unfold wb_210_54 at hw
  try dsimp only at hw
  show (am_E S 210 (d + 7) 0 0 54 [.ref 66, .int v1, am_jk, am_jk] [.int s1, .ref 66] (N, am_ts T, I, L, am_rs r) Q)
  refine am_E.go ⟨am_kv_IL N T r _, s_212 hw (fun I3 L4 hk => ⟨I3, L4, rfl, rfl, hk⟩), ?_⟩
  intro v h9 hv
  obtain ⟨I3, L4, rfl, rfl, hw⟩ := hv
  try dsimp only at hw
  refine am_E.run [75] 2000 (show (if (I3 66 19) = 0 then (am_E S 210 (d + 7) 0 0 75 [.ref 66, .int v1, .int (8 * (I3 66 21)), .int 0] [] (N, am_ts T, I3, L4, am_rs r) Q) else (True ∧ Q (none) (N, am_ts T, I3, L4, am_rs r))) from ?_)
  by_cases hc : (I3 66 19) = 0
  · rw [if_pos hc] at hw ⊢
    obtain ⟨n75, hw⟩ := hw
    refine sl_210_75 n75 hw (fun o5 I6 hw => ?_)
    · try dsimp only at hw
      refine am_E.run [132, 135] 2000 (show (if (8 * (I3 66 21)) < 0 ∨ 96 ≤ Int32.toNatClampNeg (8 * (I3 66 21)) then False else (if ((8 * (I3 66 21)) + 3) < 0 ∨ 96 ≤ Int32.toNatClampNeg ((8 * (I3 66 21)) + 3) then False else (if v1 = 3 then (am_E S 210 (d + 7) 0 0 135 [.ref 66, .int v1, .int (8 * (I3 66 21)), .int o5] [] (N, am_ts T, (am_u (am_u (am_u I6 76 (Int32.toNatClampNeg (8 * (I3 66 21))) v1) 66 21 ((I6 66 21) + 1)) 76 (Int32.toNatClampNeg ((8 * (I3 66 21)) + 3)) (I6 66 23)), L4, am_rs r) Q) else (am_E S 210 (d + 7) 0 0 132 [.ref 66, .int v1, .int (8 * (I3 66 21)), .int o5] [.int 0, .ref 66] (N, am_ts T, (am_u (am_u (am_u I6 76 (Int32.toNatClampNeg (8 * (I3 66 21))) v1) 66 21 ((I6 66 21) + 1)) 76 (Int32.toNatClampNeg ((8 * (I3 66 21)) + 3)) (I6 66 23)), L4, am_rs r) Q)))) from ?_)
      refine am_ifn hw.1 ?_
      replace hw := hw.2
      refine am_ifn hw.1 ?_
      replace hw := hw.2
      by_cases hc : v1 = 3
      · rw [if_pos hc] at hw ⊢
        exact am_E.junk (sb_210_135 hw hK) (am_le.cons (am_le.jk (am_le.cons (am_le.jk am_le.nil))))
      · rw [if_neg hc] at hw ⊢
        refine am_E.go ⟨am_kv_IL N T r _, s_213 hw (fun I11 L12 hk => ⟨I11, L12, rfl, rfl, hk⟩), ?_⟩
        intro v h9 hv
        obtain ⟨I11, L12, rfl, rfl, hw⟩ := hv
        try dsimp only at hw
        refine am_E.run [170] 2000 (show (if ((8 * (I3 66 21)) + 4) < 0 ∨ 96 ≤ Int32.toNatClampNeg ((8 * (I3 66 21)) + 4) then False else (if ((8 * (I3 66 21)) + 5) < 0 ∨ 96 ≤ Int32.toNatClampNeg ((8 * (I3 66 21)) + 5) then False else (if (I11 66 19) = 0 then (am_E S 210 (d + 7) 0 0 170 [.ref 66, .int v1, .int (8 * (I3 66 21)), .int o5] [.long 294, .ref 66] (N, am_ts T, (am_u (am_u I11 76 (Int32.toNatClampNeg ((8 * (I3 66 21)) + 4)) (I11 66 23)) 76 (Int32.toNatClampNeg ((8 * (I3 66 21)) + 5)) (I11 66 23)), L12, am_rs r) Q) else (if ((8 * (I3 66 21)) + 6) < 0 ∨ 96 ≤ Int32.toNatClampNeg ((8 * (I3 66 21)) + 6) then False else (True ∧ Q (none) (N, am_ts T, (am_u (am_u (am_u I11 76 (Int32.toNatClampNeg ((8 * (I3 66 21)) + 4)) (I11 66 23)) 76 (Int32.toNatClampNeg ((8 * (I3 66 21)) + 5)) (I11 66 23)) 76 (Int32.toNatClampNeg ((8 * (I3 66 21)) + 6)) (I11 66 23)), L12, am_rs r)))))) from ?_)
        refine am_ifn hw.1 ?_
        replace hw := hw.2
        refine am_ifn hw.1 ?_
        replace hw := hw.2
        by_cases hc : (I11 66 19) = 0
        · rw [if_pos hc] at hw ⊢
          refine am_E.go ⟨fun v h9 => v = some (.int (f_211 294 (am_u (am_u I11 76 (Int32.toNatClampNeg ((8 * (I3 66 21)) + 4)) (I11 66 23)) 76 (Int32.toNatClampNeg ((8 * (I3 66 21)) + 5)) (I11 66 23)) L12)) ∧ h9 = (N, am_ts T, (am_u (am_u I11 76 (Int32.toNatClampNeg ((8 * (I3 66 21)) + 4)) (I11 66 23)) 76 (Int32.toNatClampNeg ((8 * (I3 66 21)) + 5)) (I11 66 23)), L12, am_rs r), s_211 ⟨rfl, rfl⟩, ?_⟩
          intro v h9 hv
          obtain ⟨rfl, rfl⟩ := hv
          refine am_E.run [177] 2000 (show (if (f_211 294 (am_u (am_u I11 76 (Int32.toNatClampNeg ((8 * (I3 66 21)) + 4)) (I11 66 23)) 76 (Int32.toNatClampNeg ((8 * (I3 66 21)) + 5)) (I11 66 23)) L12) = 0 then (if ((8 * (I3 66 21)) + 6) < 0 ∨ 96 ≤ Int32.toNatClampNeg ((8 * (I3 66 21)) + 6) then False else (True ∧ Q (none) (N, am_ts T, (am_u (am_u (am_u I11 76 (Int32.toNatClampNeg ((8 * (I3 66 21)) + 4)) (I11 66 23)) 76 (Int32.toNatClampNeg ((8 * (I3 66 21)) + 5)) (I11 66 23)) 76 (Int32.toNatClampNeg ((8 * (I3 66 21)) + 6)) (I11 66 23)), L12, am_rs r))) else (am_E S 210 (d + 7) 0 0 177 [.ref 66, .int v1, .int (8 * (I3 66 21)), .int o5] [.ref 66] (N, am_ts T, (am_u (am_u I11 76 (Int32.toNatClampNeg ((8 * (I3 66 21)) + 4)) (I11 66 23)) 76 (Int32.toNatClampNeg ((8 * (I3 66 21)) + 5)) (I11 66 23)), L12, am_rs r) Q)) from ?_)
          by_cases hc : (f_211 294 (am_u (am_u I11 76 (Int32.toNatClampNeg ((8 * (I3 66 21)) + 4)) (I11 66 23)) 76 (Int32.toNatClampNeg ((8 * (I3 66 21)) + 5)) (I11 66 23)) L12) = 0
          · rw [if_pos hc] at hw ⊢
            refine am_ifn hw.1 ?_
            replace hw := hw.2
            exact ⟨trivial, hK _ _ hw⟩
          · rw [if_neg hc] at hw ⊢
            refine am_E.go ⟨am_kv_IL N T r _, s_207 hw (fun I13 L14 hk => ⟨I13, L14, rfl, rfl, hk⟩), ?_⟩
            intro v h9 hv
            obtain ⟨I13, L14, rfl, rfl, hw⟩ := hv
            try dsimp only at hw
            refine am_E.run [182] 2000 (show (am_E S 210 (d + 7) 0 0 182 [.ref 66, .int v1, .int (8 * (I3 66 21)), .int o5] [.int 1, .ref 66] (N, am_ts T, I13, L14, am_rs r) Q) from ?_)
            refine am_E.go ⟨am_kv_IL N T r _, s_213 hw (fun I15 L16 hk => ⟨I15, L16, rfl, rfl, hk⟩), ?_⟩
            intro v h9 hv
            obtain ⟨I15, L16, rfl, rfl, hw⟩ := hv
            try dsimp only at hw
            refine am_E.run [] 2000 (show (if ((8 * (I3 66 21)) + 6) < 0 ∨ 96 ≤ Int32.toNatClampNeg ((8 * (I3 66 21)) + 6) then False else (True ∧ Q (none) (N, am_ts T, (am_u I15 76 (Int32.toNatClampNeg ((8 * (I3 66 21)) + 6)) (I15 66 23)), L16, am_rs r))) from ?_)
            refine am_ifn hw.1 ?_
            replace hw := hw.2
            exact ⟨trivial, hK _ _ hw⟩
        · rw [if_neg hc] at hw ⊢
          refine am_ifn hw.1 ?_
          replace hw := hw.2
          exact ⟨trivial, hK _ _ hw⟩
  · rw [if_neg hc] at hw ⊢
    exact ⟨trivial, hK _ _ hw⟩
/-- KeyKeepersModel.readLaw()V -/
def w_210 (I : am_I) (L : am_J) (K : am_I → am_J → Prop) : Prop :=
  ∃ n4, lw_210_4 n4 (-1) 0 I L (fun o1 o2 =>
    if o1 = (-1) then
      wb_210_54 o1 0 I L K
    else
      if (12 : Int32) ≤ (I 66 21) then
        wb_210_54 o1 0 I L K
      else
        wb_210_54 o1 1 I L K)
set_option maxHeartbeats 6000000 in
set_option maxRecDepth 100000 in
theorem s_210 {S : am_S} {d : Nat} {N : Nat} {T : Nat → Nat × Nat} {I : am_I} {L : am_J} {r : Nat → Nat → Option Nat} {Q : am_Q} {K : am_I → am_J → Prop} (hw : w_210 I L K) (hK : ∀ (I1 : am_I) (L1 : am_J), K I1 L1 → Q (none) (N, am_ts T, I1, L1, am_rs r)) : am_E S 210 (d + 7) 0 0 0 [.ref 66, am_jk, am_jk, am_jk] [] (N, am_ts T, I, L, am_rs r) Q := by
  unfold w_210 at hw
  try dsimp only at hw
  refine am_E.run [4] 2000 (show (am_E S 210 (d + 7) 0 0 4 [.ref 66, .int (-1), .int 0, am_jk] [] (N, am_ts T, I, L, am_rs r) Q) from ?_)
  obtain ⟨n4, hw⟩ := hw
  refine sl_210_4 n4 hw (fun o1 o2 hw => ?_)
  · try dsimp only at hw
    refine am_E.run [54] 2000 (show (if o1 = (-1) then (am_E S 210 (d + 7) 0 0 54 [.ref 66, .int o1, .int o2, am_jk] [.int 0, .ref 66] (N, am_ts T, I, L, am_rs r) Q) else (if (12 : Int32) ≤ (I 66 21) then (am_E S 210 (d + 7) 0 0 54 [.ref 66, .int o1, .int o2, am_jk] [.int 0, .ref 66] (N, am_ts T, I, L, am_rs r) Q) else (am_E S 210 (d + 7) 0 0 54 [.ref 66, .int o1, .int o2, am_jk] [.int 1, .ref 66] (N, am_ts T, I, L, am_rs r) Q))) from ?_)
    by_cases hc : o1 = (-1)
    · rw [if_pos hc] at hw ⊢
      exact am_E.junk (sb_210_54 hw hK) (am_le.cons (am_le.cons (am_le.jk (am_le.cons am_le.nil))))
    · rw [if_neg hc] at hw ⊢
      by_cases hc : (12 : Int32) ≤ (I 66 21)
      · rw [if_pos hc] at hw ⊢
        exact am_E.junk (sb_210_54 hw hK) (am_le.cons (am_le.cons (am_le.jk (am_le.cons am_le.nil))))
      · rw [if_neg hc] at hw ⊢
        exact am_E.junk (sb_210_54 hw hK) (am_le.cons (am_le.cons (am_le.jk (am_le.cons am_le.nil))))
