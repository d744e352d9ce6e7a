/-- KeyKeepersModel.sumOf(I)I -/
def w_296 (x0 : Int32) (I : am_I) (L : am_J) (K : Int32 → am_I → am_J → Prop) : Prop :=
  if (I 66 57) = 0 then
    ¬ (x0 < 0 ∨ 120 ≤ Int32.toNatClampNeg x0) ∧
    ¬ ((x0 + 1) < 0 ∨ 120 ≤ Int32.toNatClampNeg (x0 + 1)) ∧
    if (I 97 (Int32.toNatClampNeg x0)) = (I 97 (Int32.toNatClampNeg (x0 + 1))) then
      K (-1) I L
    else
      ¬ (x0 < 0 ∨ 120 ≤ Int32.toNatClampNeg x0) ∧
      ¬ ((x0 + 1) < 0 ∨ 120 ≤ Int32.toNatClampNeg (x0 + 1)) ∧
      w_239 (I 97 (Int32.toNatClampNeg x0)) (I 97 (Int32.toNatClampNeg (x0 + 1))) (am_u I 66 20 1) L (fun I1 L2 =>
        ((I1 66 38) = 0 ∨ (I1 66 38) = 1) ∧
        K (Int64.toInt32 (L2 66 39)) (am_u (am_u I1 66 20 0) 66 57 (I1 66 38)) L2)
  else
    K (-1) I L
set_option maxRecDepth 100000 in
theorem s_296 {S : am_S} {d : Nat} {N : Nat} {T : Nat → Nat × Nat} {I : am_I} {L : am_J} {r : Nat → Nat → Option Nat} {Q : am_Q} {x0 : Int32} {K : Int32 → am_I → am_J → Prop} (hw : w_296 x0 I L K) (hK : ∀ (q : Int32) (I1 : am_I) (L1 : am_J), K q I1 L1 → Q (some (.int q)) (N, am_ts T, I1, L1, am_rs r)) : am_E S 296 (d + 3) 0 0 0 [.ref 66, .int x0] [] (N, am_ts T, I, L, am_rs r) Q := by
  unfold w_296 at hw
  try dsimp only at hw
  refine am_E.run [46] 2000 (show (if (I 66 57) = 0 then (if x0 < 0 ∨ 120 ≤ Int32.toNatClampNeg x0 then False else (if (x0 + 1) < 0 ∨ 120 ≤ Int32.toNatClampNeg (x0 + 1) then False else (if (I 97 (Int32.toNatClampNeg x0)) = (I 97 (Int32.toNatClampNeg (x0 + 1))) then (True ∧ Q (some (.int (-1))) (N, am_ts T, I, L, am_rs r)) else (if x0 < 0 ∨ 120 ≤ Int32.toNatClampNeg x0 then False else (if (x0 + 1) < 0 ∨ 120 ≤ Int32.toNatClampNeg (x0 + 1) then False else (am_E S 296 (d + 3) 0 0 46 [.ref 66, .int x0] [.int (I 97 (Int32.toNatClampNeg (x0 + 1))), .int (I 97 (Int32.toNatClampNeg x0)), .ref 66] (N, am_ts T, (am_u I 66 20 1), L, am_rs r) Q)))))) else (True ∧ Q (some (.int (-1))) (N, am_ts T, I, L, am_rs r))) from ?_)
  by_cases hc : (I 66 57) = 0
  · rw [if_pos hc] at hw ⊢
    refine am_ifn hw.1 ?_
    replace hw := hw.2
    refine am_ifn hw.1 ?_
    replace hw := hw.2
    by_cases hc : (I 97 (Int32.toNatClampNeg x0)) = (I 97 (Int32.toNatClampNeg (x0 + 1)))
    · rw [if_pos hc] at hw ⊢
      exact ⟨trivial, hK _ _ _ hw⟩
    · rw [if_neg hc] at hw ⊢
      refine am_ifn hw.1 ?_
      replace hw := hw.2
      refine am_ifn hw.1 ?_
      replace hw := hw.2
      refine am_E.go ⟨am_kv_IL N T r _, s_239 hw (fun I1 L2 hk => ⟨I1, L2, rfl, rfl, hk⟩), ?_⟩
      intro v h9 hv
      obtain ⟨I1, L2, rfl, rfl, hw⟩ := hv
      try dsimp only at hw
      refine am_E.run [] 2000 (show (if (3 = 0 ∨ (3 = 3 ∧ ((I1 66 38) = 0 ∨ (I1 66 38) = 1))) then (True ∧ Q (some (.int (Int64.toInt32 (L2 66 39)))) (N, am_ts T, (am_u (am_u I1 66 20 0) 66 57 (I1 66 38)), L2, am_rs r)) else False) from ?_)
      refine am_ifp (Or.inr ⟨rfl, hw.1⟩) ?_
      replace hw := hw.2
      exact ⟨trivial, hK _ _ _ hw⟩
  · rw [if_neg hc] at hw ⊢
    exact ⟨trivial, hK _ _ _ hw⟩
def lw_299_86 : Nat → Int32 → Int32 → Int32 → Int32 → am_I → am_J → (Int32 → Int32 → am_I → am_J → Prop) → Prop
  | 0, _, _, _, _, _, _, _ => False
  | n + 1, v2, v3, v4, v5, I, L, E0 =>
    if v2 ≤ v5 then
      E0 v4 v5 I L
    else
      w_237 0 I (fun q6 =>
        if (9999 : Int32) ≤ q6 then
          E0 v4 v5 I L
        else
          w_300 (I 68 1) L (fun q7 L8 =>
            w_300 (I 68 0) L8 (fun q9 L10 =>
              w_253 q7 q9 I (fun q11 =>
                if q11 = 0 then
                  w_300 10 L10 (fun q12 L13 =>
                    w_237 2 I (fun q14 =>
                      if q14 ≤ q12 then
                        lw_299_86 n v2 v3 v4 (v5 + 1) (am_u I 68 5 ((I 68 5) + 1)) L13 E0
                      else
                        w_262 I (fun q15 I16 =>
                          lw_299_86 n v2 v3 (v4 + 1) (v5 + 1) (am_u I16 68 5 ((I16 68 5) + 1)) L13 E0)))
                else
                  ¬ ((10 + q7) < 0 ∨ 5510 ≤ Int32.toNatClampNeg (10 + q7)) ∧
                  w_257 (I 68 (Int32.toNatClampNeg (10 + q7))) q9 I (fun q17 =>
                    ¬ ((10 + q7) < 0 ∨ 5510 ≤ Int32.toNatClampNeg (10 + q7)) ∧
                    w_300 10 L10 (fun q18 L19 =>
                      w_237 2 (am_u I 68 (Int32.toNatClampNeg (10 + q7)) q17) (fun q20 =>
                        if q20 ≤ q18 then
                          lw_299_86 n v2 v3 v4 (v5 + 1) (am_u (am_u I 68 (Int32.toNatClampNeg (10 + q7)) q17) 68 5 (((am_u I 68 (Int32.toNatClampNeg (10 + q7)) q17) 68 5) + 1)) L19 E0
                        else
                          w_262 (am_u I 68 (Int32.toNatClampNeg (10 + q7)) q17) (fun q21 I22 =>
                            lw_299_86 n v2 v3 (v4 + 1) (v5 + 1) (am_u I22 68 5 ((I22 68 5) + 1)) L19 E0))))))))
set_option maxRecDepth 100000 in
theorem sl_299_86 {S : am_S} {d : Nat} {Q : am_Q} {N : Nat} {T : Nat → Nat × Nat} {r : Nat → Nat → Option Nat} {E0 : Int32 → Int32 → am_I → am_J → Prop} : ∀ (n : Nat) {v2 : Int32} {v3 : Int32} {v4 : Int32} {v5 : Int32} {I : am_I} {L : am_J}, lw_299_86 n v2 v3 v4 v5 I L E0 → (∀ (o4 : Int32) (o5 : Int32) (I1 : am_I) (L1 : am_J), E0 o4 o5 I1 L1 → am_E S 299 (d + 4) 0 0 202 [.ref 66, am_jk, .int v2, .int v3, .int o4, .int o5, am_jk, am_jk] [] (N, am_ts T, I1, L1, am_rs r) Q) → am_E S 299 (d + 4) 0 0 86 [.ref 66, am_jk, .int v2, .int v3, .int v4, .int v5, am_jk, am_jk] [] (N, am_ts T, I, L, am_rs r) Q
  | 0, _, _, _, _, _, _, hw, _ => hw.elim
  | n + 1, v2, v3, v4, v5, I, L, hw, hE0 => by
    have ih := @sl_299_86 S d Q N T r E0 n
    unfold lw_299_86 at hw
    try dsimp only at hw
    refine am_E.run [94, 202] 2000 (show (if v2 ≤ v5 then (am_E S 299 (d + 4) 0 0 202 [.ref 66, am_jk, .int v2, .int v3, .int v4, .int v5, am_jk, am_jk] [] (N, am_ts T, I, L, am_rs r) Q) else (am_E S 299 (d + 4) 0 0 94 [.ref 66, am_jk, .int v2, .int v3, .int v4, .int v5, am_jk, am_jk] [.int 0, .ref 66] (N, am_ts T, I, L, am_rs r) Q)) from ?_)
    by_cases hc : v2 ≤ v5
    · rw [if_pos hc] at hw ⊢
      exact hE0 _ _ _ _ hw
    · rw [if_neg hc] at hw ⊢
      refine am_E.go ⟨am_ki_ N T I L r _, s_237 hw (fun q6 hk => ⟨q6, rfl, rfl, hk⟩), ?_⟩
      intro v h9 hv
      obtain ⟨q6, rfl, rfl, hw⟩ := hv
      try dsimp only at hw
      refine am_E.run [110, 202] 2000 (show (if (9999 : Int32) ≤ q6 then (am_E S 299 (d + 4) 0 0 202 [.ref 66, am_jk, .int v2, .int v3, .int v4, .int v5, am_jk, am_jk] [] (N, am_ts T, I, L, am_rs r) Q) else (am_E S 299 (d + 4) 0 0 110 [.ref 66, am_jk, .int v2, .int v3, .int v4, .int v5, am_jk, am_jk] [.int (I 68 1), .ref 66] (N, am_ts T, I, L, am_rs r) Q)) from ?_)
      by_cases hc : (9999 : Int32) ≤ q6
      · rw [if_pos hc] at hw ⊢
        exact hE0 _ _ _ _ hw
      · rw [if_neg hc] at hw ⊢
        refine am_E.go ⟨am_ki_L N T I r _, s_300 hw (fun q7 L8 hk => ⟨q7, L8, rfl, rfl, hk⟩), ?_⟩
        intro v h9 hv
        obtain ⟨q7, L8, rfl, rfl, hw⟩ := hv
        try dsimp only at hw
        refine am_E.run [122] 2000 (show (am_E S 299 (d + 4) 0 0 122 [.ref 66, am_jk, .int v2, .int v3, .int v4, .int v5, .int q7, am_jk] [.int (I 68 0), .ref 66] (N, am_ts T, I, L8, am_rs r) Q) from ?_)
        refine am_E.go ⟨am_ki_L N T I r _, s_300 hw (fun q9 L10 hk => ⟨q9, L10, rfl, rfl, hk⟩), ?_⟩
        intro v h9 hv
        obtain ⟨q9, L10, rfl, rfl, hw⟩ := hv
        try dsimp only at hw
        refine am_E.run [132] 2000 (show (am_E S 299 (d + 4) 0 0 132 [.ref 66, am_jk, .int v2, .int v3, .int v4, .int v5, .int q7, .int q9] [.int q9, .int q7, .ref 66] (N, am_ts T, I, L10, am_rs r) Q) from ?_)
        refine am_E.go ⟨am_ki_ N T I L10 r _, s_253 hw (fun q11 hk => ⟨q11, rfl, rfl, hk⟩), ?_⟩
        intro v h9 hv
        obtain ⟨q11, rfl, rfl, hw⟩ := hv
        try dsimp only at hw
        refine am_E.run [160, 167] 2000 (show (if q11 = 0 then (am_E S 299 (d + 4) 0 0 167 [.ref 66, am_jk, .int v2, .int v3, .int v4, .int v5, .int q7, .int q9] [.int 10, .ref 66] (N, am_ts T, I, L10, am_rs r) Q) else (if (10 + q7) < 0 ∨ 5510 ≤ Int32.toNatClampNeg (10 + q7) then False else (am_E S 299 (d + 4) 0 0 160 [.ref 66, am_jk, .int v2, .int v3, .int v4, .int v5, .int q7, .int q9] [.int q9, .int (I 68 (Int32.toNatClampNeg (10 + q7))), .ref 66, .int (10 + q7), .ref 68] (N, am_ts T, I, L10, am_rs r) Q))) from ?_)
        by_cases hc : q11 = 0
        · rw [if_pos hc] at hw ⊢
          refine am_E.go ⟨am_ki_L N T I r _, s_300 hw (fun q12 L13 hk => ⟨q12, L13, rfl, rfl, hk⟩), ?_⟩
          intro v h9 hv
          obtain ⟨q12, L13, rfl, rfl, hw⟩ := hv
          try dsimp only at hw
          refine am_E.run [172] 2000 (show (am_E S 299 (d + 4) 0 0 172 [.ref 66, am_jk, .int v2, .int v3, .int v4, .int v5, .int q7, .int q9] [.int 2, .ref 66, .int q12] (N, am_ts T, I, L13, am_rs r) Q) from ?_)
          refine am_E.go ⟨am_ki_ N T I L13 r _, s_237 hw (fun q14 hk => ⟨q14, rfl, rfl, hk⟩), ?_⟩
          intro v h9 hv
          obtain ⟨q14, rfl, rfl, hw⟩ := hv
          try dsimp only at hw
          refine am_E.run [86, 179] 2000 (show (if q14 ≤ q12 then (am_E S 299 (d + 4) 0 0 86 [.ref 66, am_jk, .int v2, .int v3, .int v4, .int (v5 + 1), .int q7, .int q9] [] (N, am_ts T, (am_u I 68 5 ((I 68 5) + 1)), L13, am_rs r) Q) else (am_E S 299 (d + 4) 0 0 179 [.ref 66, am_jk, .int v2, .int v3, .int v4, .int v5, .int q7, .int q9] [.ref 66] (N, am_ts T, I, L13, am_rs r) Q)) from ?_)
          by_cases hc : q14 ≤ q12
          · rw [if_pos hc] at hw ⊢
            exact am_E.junk (ih hw hE0) (am_le.cons (am_le.cons (am_le.cons (am_le.cons (am_le.cons (am_le.cons (am_le.jk (am_le.jk am_le.nil))))))))
          · rw [if_neg hc] at hw ⊢
            refine am_E.go ⟨am_ki_I N T L13 r _, s_262 hw (fun q15 I16 hk => ⟨q15, I16, rfl, rfl, hk⟩), ?_⟩
            intro v h9 hv
            obtain ⟨q15, I16, rfl, rfl, hw⟩ := hv
            try dsimp only at hw
            refine am_E.run [86] 2000 (show (am_E S 299 (d + 4) 0 0 86 [.ref 66, am_jk, .int v2, .int v3, .int (v4 + 1), .int (v5 + 1), .int q7, .int q9] [] (N, am_ts T, (am_u I16 68 5 ((I16 68 5) + 1)), L13, am_rs r) Q) from ?_)
            exact am_E.junk (ih hw hE0) (am_le.cons (am_le.cons (am_le.cons (am_le.cons (am_le.cons (am_le.cons (am_le.jk (am_le.jk am_le.nil))))))))
        · rw [if_neg hc] at hw ⊢
          refine am_ifn hw.1 ?_
          replace hw := hw.2
          refine am_E.go ⟨am_ki_ N T I L10 r _, s_257 hw (fun q17 hk => ⟨q17, rfl, rfl, hk⟩), ?_⟩
          intro v h9 hv
          obtain ⟨q17, rfl, rfl, hw⟩ := hv
          try dsimp only at hw
          refine am_E.run [167] 2000 (show (if (10 + q7) < 0 ∨ 5510 ≤ Int32.toNatClampNeg (10 + q7) then False else (am_E S 299 (d + 4) 0 0 167 [.ref 66, am_jk, .int v2, .int v3, .int v4, .int v5, .int q7, .int q9] [.int 10, .ref 66] (N, am_ts T, (am_u I 68 (Int32.toNatClampNeg (10 + q7)) q17), L10, am_rs r) Q)) from ?_)
          refine am_ifn hw.1 ?_
          replace hw := hw.2
          refine am_E.go ⟨am_ki_L N T (am_u I 68 (Int32.toNatClampNeg (10 + q7)) q17) r _, s_300 hw (fun q18 L19 hk => ⟨q18, L19, rfl, rfl, hk⟩), ?_⟩
          intro v h9 hv
          obtain ⟨q18, L19, rfl, rfl, hw⟩ := hv
          try dsimp only at hw
          refine am_E.run [172] 2000 (show (am_E S 299 (d + 4) 0 0 172 [.ref 66, am_jk, .int v2, .int v3, .int v4, .int v5, .int q7, .int q9] [.int 2, .ref 66, .int q18] (N, am_ts T, (am_u I 68 (Int32.toNatClampNeg (10 + q7)) q17), L19, am_rs r) Q) from ?_)
          refine am_E.go ⟨am_ki_ N T (am_u I 68 (Int32.toNatClampNeg (10 + q7)) q17) L19 r _, s_237 hw (fun q20 hk => ⟨q20, rfl, rfl, hk⟩), ?_⟩
          intro v h9 hv
          obtain ⟨q20, rfl, rfl, hw⟩ := hv
          try dsimp only at hw
          refine am_E.run [86, 179] 2000 (show (if q20 ≤ q18 then (am_E S 299 (d + 4) 0 0 86 [.ref 66, am_jk, .int v2, .int v3, .int v4, .int (v5 + 1), .int q7, .int q9] [] (N, am_ts T, (am_u (am_u I 68 (Int32.toNatClampNeg (10 + q7)) q17) 68 5 (((am_u I 68 (Int32.toNatClampNeg (10 + q7)) q17) 68 5) + 1)), L19, am_rs r) Q) else (am_E S 299 (d + 4) 0 0 179 [.ref 66, am_jk, .int v2, .int v3, .int v4, .int v5, .int q7, .int q9] [.ref 66] (N, am_ts T, (am_u I 68 (Int32.toNatClampNeg (10 + q7)) q17), L19, am_rs r) Q)) from ?_)
          by_cases hc : q20 ≤ q18
          · rw [if_pos hc] at hw ⊢
            exact am_E.junk (ih hw hE0) (am_le.cons (am_le.cons (am_le.cons (am_le.cons (am_le.cons (am_le.cons (am_le.jk (am_le.jk am_le.nil))))))))
          · rw [if_neg hc] at hw ⊢
            refine am_E.go ⟨am_ki_I N T L19 r _, s_262 hw (fun q21 I22 hk => ⟨q21, I22, rfl, rfl, hk⟩), ?_⟩
            intro v h9 hv
            obtain ⟨q21, I22, rfl, rfl, hw⟩ := hv
            try dsimp only at hw
            refine am_E.run [86] 2000 (show (am_E S 299 (d + 4) 0 0 86 [.ref 66, am_jk, .int v2, .int v3, .int (v4 + 1), .int (v5 + 1), .int q7, .int q9] [] (N, am_ts T, (am_u I22 68 5 ((I22 68 5) + 1)), L19, am_rs r) Q) from ?_)
            exact am_E.junk (ih hw hE0) (am_le.cons (am_le.cons (am_le.cons (am_le.cons (am_le.cons (am_le.cons (am_le.jk (am_le.jk am_le.nil))))))))
def lw_299_215 : Nat → Int32 → Int32 → Int32 → am_I → am_J → (Int32 → am_I → Prop) → Prop
  | 0, _, _, _, _, _, _ => False
  | n + 1, v3, v4, v5, I, L, E0 =>
    if (I 66 61) ≤ v5 then
      E0 v5 I
    else
      ¬ ((10 + v5) < 0 ∨ 5510 ≤ Int32.toNatClampNeg (10 + v5)) ∧
      ¬ (v5 < 0 ∨ 8 ≤ Int32.toNatClampNeg v5) ∧
      lw_299_215 n v3 v4 (v5 + 1) (am_u I 98 (Int32.toNatClampNeg v5) (I 68 (Int32.toNatClampNeg (10 + v5)))) L E0
set_option maxRecDepth 100000 in
theorem sl_299_215 {S : am_S} {d : Nat} {Q : am_Q} {N : Nat} {T : Nat → Nat × Nat} {L : am_J} {r : Nat → Nat → Option Nat} {E0 : Int32 → am_I → Prop} : ∀ (n : Nat) {v3 : Int32} {v4 : Int32} {v5 : Int32} {I : am_I}, lw_299_215 n v3 v4 v5 I L E0 → (∀ (o5 : Int32) (I1 : am_I), E0 o5 I1 → am_E S 299 (d + 4) 0 0 247 [.ref 66, am_jk, am_jk, .int v3, .int v4, .int o5, am_jk, am_jk] [] (N, am_ts T, I1, L, am_rs r) Q) → am_E S 299 (d + 4) 0 0 215 [.ref 66, am_jk, am_jk, .int v3, .int v4, .int v5, am_jk, am_jk] [] (N, am_ts T, I, L, am_rs r) Q
  | 0, _, _, _, _, hw, _ => hw.elim
  | n + 1, v3, v4, v5, I, hw, hE0 => by
    have ih := @sl_299_215 S d Q N T L r E0 n
    unfold lw_299_215 at hw
    try dsimp only at hw
    refine am_E.run [215, 247] 2000 (show (if (I 66 61) ≤ v5 then (am_E S 299 (d + 4) 0 0 247 [.ref 66, am_jk, am_jk, .int v3, .int v4, .int v5, am_jk, am_jk] [] (N, am_ts T, I, L, am_rs r) Q) else (if (10 + v5) < 0 ∨ 5510 ≤ Int32.toNatClampNeg (10 + v5) then False else (if v5 < 0 ∨ 8 ≤ Int32.toNatClampNeg v5 then False else (am_E S 299 (d + 4) 0 0 215 [.ref 66, am_jk, am_jk, .int v3, .int v4, .int (v5 + 1), am_jk, am_jk] [] (N, am_ts T, (am_u I 98 (Int32.toNatClampNeg v5) (I 68 (Int32.toNatClampNeg (10 + v5)))), L, am_rs r) Q)))) from ?_)
    by_cases hc : (I 66 61) ≤ v5
    · rw [if_pos hc] at hw ⊢
      exact hE0 _ _ hw
    · rw [if_neg hc] at hw ⊢
      refine am_ifn hw.1 ?_
      replace hw := hw.2
      refine am_ifn hw.1 ?_
      replace hw := hw.2
      exact ih hw hE0
/-- KeyKeepersModel.nights(II)I -/
def w_299 (x0 : Int32) (x1 : Int32) (I : am_I) (L : am_J) (K : Int32 → am_I → am_J → Prop) : Prop :=
  if (f_182 (Int32.toInt64 x0) 0 1000000) = 0 then
    w_179 (-1) (am_u I 66 0 0) (fun q1 I2 =>
      K q1 I2 L)
  else
    if (f_182 (Int32.toInt64 x1) 1 100) = 0 then
      w_179 (-1) (am_u I 66 0 0) (fun q34 I35 =>
        K q34 I35 L)
    else
      if (I 68 1) = 0 then
        w_179 (-3) (am_u I 66 0 0) (fun q3 I4 =>
          K q3 I4 L)
      else
        if (I 68 0) = 0 then
          w_179 (-3) (am_u I 66 0 0) (fun q32 I33 =>
            K q32 I33 L)
        else
          w_256 16 (am_u I 66 0 0) (fun I5 =>
            ∃ n86, lw_299_86 n86 x1 (I5 68 9) 0 0 I5 (am_u L 66 58 (Int32.toInt64 x0)) (fun o23 o24 I25 L26 =>
              ∃ n215, lw_299_215 n215 (I5 68 9) o23 0 (am_u I25 66 61 (I25 68 1)) L26 (fun o27 I28 =>
                w_180 16 (am_u I28 66 60 ((I28 68 9) - (I5 68 9))) (fun I29 =>
                  w_179 o23 I29 (fun q30 I31 =>
                    K q30 I31 L26)))))
set_option maxRecDepth 100000 in
theorem s_299 {S : am_S} {d : Nat} {N : Nat} {T : Nat → Nat × Nat} {I : am_I} {L : am_J} {r : Nat → Nat → Option Nat} {Q : am_Q} {x0 : Int32} {x1 : Int32} {K : Int32 → am_I → am_J → Prop} (hw : w_299 x0 x1 I L K) (hK : ∀ (q : Int32) (I1 : am_I) (L1 : am_J), K q I1 L1 → Q (some (.int q)) (N, am_ts T, I1, L1, am_rs r)) : am_E S 299 (d + 4) 0 0 0 [.ref 66, .int x0, .int x1, am_jk, am_jk, am_jk, am_jk, am_jk] [] (N, am_ts T, I, L, am_rs r) Q := by
  unfold w_299 at hw
  try dsimp only at hw
  refine am_E.run [11] 2000 (show (am_E S 299 (d + 4) 0 0 11 [.ref 66, .int x0, .int x1, am_jk, am_jk, am_jk, am_jk, am_jk] [.long 1000000, .long 0, .long (Int32.toInt64 x0)] (N, am_ts T, (am_u I 66 0 0), L, am_rs r) Q) from ?_)
  refine am_E.go ⟨fun v h9 => v = some (.int (f_182 (Int32.toInt64 x0) 0 1000000)) ∧ h9 = (N, am_ts T, (am_u I 66 0 0), L, am_rs r), s_182 ⟨rfl, rfl⟩, ?_⟩
  intro v h9 hv
  obtain ⟨rfl, rfl⟩ := hv
  refine am_E.run [23, 31] 2000 (show (if (f_182 (Int32.toInt64 x0) 0 1000000) = 0 then (am_E S 299 (d + 4) 0 0 31 [.ref 66, .int x0, .int x1, am_jk, am_jk, am_jk, am_jk, am_jk] [.int (-1), .ref 66] (N, am_ts T, (am_u I 66 0 0), L, am_rs r) Q) else (am_E S 299 (d + 4) 0 0 23 [.ref 66, .int x0, .int x1, am_jk, am_jk, am_jk, am_jk, am_jk] [.long 100, .long 1, .long (Int32.toInt64 x1)] (N, am_ts T, (am_u I 66 0 0), L, am_rs r) Q)) from ?_)
  by_cases hc : (f_182 (Int32.toInt64 x0) 0 1000000) = 0
  · rw [if_pos hc] at hw ⊢
    refine am_E.go ⟨am_ki_I N T L r _, s_179 hw (fun q1 I2 hk => ⟨q1, I2, rfl, rfl, hk⟩), ?_⟩
    intro v h9 hv
    obtain ⟨q1, I2, rfl, rfl, hw⟩ := hv
    try dsimp only at hw
    refine am_E.run [] 2000 (show (True ∧ Q (some (.int q1)) (N, am_ts T, I2, L, am_rs r)) from ?_)
    exact ⟨trivial, hK _ _ _ hw⟩
  · rw [if_neg hc] at hw ⊢
    refine am_E.go ⟨fun v h9 => v = some (.int (f_182 (Int32.toInt64 x1) 1 100)) ∧ h9 = (N, am_ts T, (am_u I 66 0 0), L, am_rs r), s_182 ⟨rfl, rfl⟩, ?_⟩
    intro v h9 hv
    obtain ⟨rfl, rfl⟩ := hv
    refine am_E.run [31, 56, 63] 2000 (show (if (f_182 (Int32.toInt64 x1) 1 100) = 0 then (am_E S 299 (d + 4) 0 0 31 [.ref 66, .int x0, .int x1, am_jk, am_jk, am_jk, am_jk, am_jk] [.int (-1), .ref 66] (N, am_ts T, (am_u I 66 0 0), L, am_rs r) Q) else (if (I 68 1) = 0 then (am_E S 299 (d + 4) 0 0 56 [.ref 66, .int x0, .int x1, am_jk, am_jk, am_jk, am_jk, am_jk] [.int (-3), .ref 66] (N, am_ts T, (am_u I 66 0 0), L, am_rs r) Q) else (if (I 68 0) = 0 then (am_E S 299 (d + 4) 0 0 56 [.ref 66, .int x0, .int x1, am_jk, am_jk, am_jk, am_jk, am_jk] [.int (-3), .ref 66] (N, am_ts T, (am_u I 66 0 0), L, am_rs r) Q) else (am_E S 299 (d + 4) 0 0 63 [.ref 66, .int x0, .int x1, am_jk, am_jk, am_jk, am_jk, am_jk] [.int 16, .ref 66] (N, am_ts T, (am_u I 66 0 0), L, am_rs r) Q)))) from ?_)
    by_cases hc : (f_182 (Int32.toInt64 x1) 1 100) = 0
    · rw [if_pos hc] at hw ⊢
      refine am_E.go ⟨am_ki_I N T L r _, s_179 hw (fun q34 I35 hk => ⟨q34, I35, rfl, rfl, hk⟩), ?_⟩
      intro v h9 hv
      obtain ⟨q34, I35, rfl, rfl, hw⟩ := hv
      try dsimp only at hw
      refine am_E.run [] 2000 (show (True ∧ Q (some (.int q34)) (N, am_ts T, I35, L, am_rs r)) from ?_)
      exact ⟨trivial, hK _ _ _ hw⟩
    · rw [if_neg hc] at hw ⊢
      by_cases hc : (I 68 1) = 0
      · rw [if_pos hc] at hw ⊢
        refine am_E.go ⟨am_ki_I N T L r _, s_179 hw (fun q3 I4 hk => ⟨q3, I4, rfl, rfl, hk⟩), ?_⟩
        intro v h9 hv
        obtain ⟨q3, I4, rfl, rfl, hw⟩ := hv
        try dsimp only at hw
        refine am_E.run [] 2000 (show (True ∧ Q (some (.int q3)) (N, am_ts T, I4, L, am_rs r)) from ?_)
        exact ⟨trivial, hK _ _ _ hw⟩
      · rw [if_neg hc] at hw ⊢
        by_cases hc : (I 68 0) = 0
        · rw [if_pos hc] at hw ⊢
          refine am_E.go ⟨am_ki_I N T L r _, s_179 hw (fun q32 I33 hk => ⟨q32, I33, rfl, rfl, hk⟩), ?_⟩
          intro v h9 hv
          obtain ⟨q32, I33, rfl, rfl, hw⟩ := hv
          try dsimp only at hw
          refine am_E.run [] 2000 (show (True ∧ Q (some (.int q32)) (N, am_ts T, I33, L, am_rs r)) from ?_)
          exact ⟨trivial, hK _ _ _ hw⟩
        · rw [if_neg hc] at hw ⊢
          refine am_E.go ⟨am_kv_I N T L r _, s_256 hw (fun I5 hk => ⟨I5, rfl, rfl, hk⟩), ?_⟩
          intro v h9 hv
          obtain ⟨I5, rfl, rfl, hw⟩ := hv
          try dsimp only at hw
          refine am_E.run [86] 2000 (show (am_E S 299 (d + 4) 0 0 86 [.ref 66, .int x0, .int x1, .int (I5 68 9), .int 0, .int 0, am_jk, am_jk] [] (N, am_ts T, I5, (am_u L 66 58 (Int32.toInt64 x0)), am_rs r) Q) from ?_)
          obtain ⟨n86, hw⟩ := hw
          refine am_E.junk (lo := [.ref 66, am_jk, .int x1, .int (I5 68 9), .int 0, .int 0, am_jk, am_jk]) ?_ (am_le.cons (am_le.jk (am_le.cons (am_le.cons (am_le.cons (am_le.cons (am_le.cons (am_le.cons am_le.nil))))))))
          refine sl_299_86 n86 hw (fun o23 o24 I25 L26 hw => ?_)
          · try dsimp only at hw
            refine am_E.run [215] 2000 (show (am_E S 299 (d + 4) 0 0 215 [.ref 66, am_jk, .int x1, .int (I5 68 9), .int o23, .int 0, am_jk, am_jk] [] (N, am_ts T, (am_u I25 66 61 (I25 68 1)), L26, am_rs r) Q) from ?_)
            obtain ⟨n215, hw⟩ := hw
            refine am_E.junk (lo := [.ref 66, am_jk, am_jk, .int (I5 68 9), .int o23, .int 0, am_jk, am_jk]) ?_ (am_le.cons (am_le.cons (am_le.jk (am_le.cons (am_le.cons (am_le.cons (am_le.cons (am_le.cons am_le.nil))))))))
            refine sl_299_215 n215 hw (fun o27 I28 hw => ?_)
            · try dsimp only at hw
              refine am_E.run [263] 2000 (show (am_E S 299 (d + 4) 0 0 263 [.ref 66, am_jk, am_jk, .int (I5 68 9), .int o23, .int o27, am_jk, am_jk] [.int 16, .ref 66] (N, am_ts T, (am_u I28 66 60 ((I28 68 9) - (I5 68 9))), L26, am_rs r) Q) from ?_)
              refine am_E.go ⟨am_kv_I N T L26 r _, s_180 hw (fun I29 hk => ⟨I29, rfl, rfl, hk⟩), ?_⟩
              intro v h9 hv
              obtain ⟨I29, rfl, rfl, hw⟩ := hv
              try dsimp only at hw
              refine am_E.run [269] 2000 (show (am_E S 299 (d + 4) 0 0 269 [.ref 66, am_jk, am_jk, .int (I5 68 9), .int o23, .int o27, am_jk, am_jk] [.int o23, .ref 66] (N, am_ts T, I29, L26, am_rs r) Q) from ?_)
              refine am_E.go ⟨am_ki_I N T L26 r _, s_179 hw (fun q30 I31 hk => ⟨q30, I31, rfl, rfl, hk⟩), ?_⟩
              intro v h9 hv
              obtain ⟨q30, I31, rfl, rfl, hw⟩ := hv
              try dsimp only at hw
              refine am_E.run [] 2000 (show (True ∧ Q (some (.int q30)) (N, am_ts T, I31, L26, am_rs r)) from ?_)
              exact ⟨trivial, hK _ _ _ hw⟩
/-- KeyKeepers.door(II)I -/
def w_11 (x0 : Int32) (x1 : Int32) (I : am_I) (K : Int32 → am_I → Prop) : Prop :=
  if (f_12 x0) = 0 then
    w_14 (-1) I (fun q1 I2 =>
      K q1 I2)
  else
    if (f_12 x1) = 0 then
      w_14 (-1) I (fun q3 I4 =>
        K q3 I4)
    else
      if x0 = x1 then
        w_14 (-1) I (fun q11 I12 =>
          K q11 I12)
      else
        if (I 1 2) < 12 then
          w_15 x0 x1 I (fun q5 I6 =>
            w_16 q5 I6 (fun q7 I8 =>
              K q7 I8))
        else
          w_14 (-5) I (fun q9 I10 =>
            K q9 I10)
set_option maxRecDepth 100000 in
theorem s_11 {S : am_S} {d : Nat} {N : Nat} {T : Nat → Nat × Nat} {I : am_I} {L : am_J} {r : Nat → Nat → Option Nat} {Q : am_Q} {x0 : Int32} {x1 : Int32} {K : Int32 → am_I → Prop} (hw : w_11 x0 x1 I K) (hK : ∀ (q : Int32) (I1 : am_I), K q I1 → Q (some (.int q)) (N, am_ts T, I1, L, am_rs r)) : am_E S 11 (d + 2) 0 0 0 [.ref 0, .int x0, .int x1] [] (N, am_ts T, I, L, am_rs r) Q := by
  unfold w_11 at hw
  try dsimp only at hw
  refine am_E.run [1] 2000 (show (am_E S 11 (d + 2) 0 0 1 [.ref 0, .int x0, .int x1] [.int x0] (N, am_ts T, I, L, am_rs r) Q) from ?_)
  refine am_E.go ⟨fun v h9 => v = some (.int (f_12 x0)) ∧ h9 = (N, am_ts T, I, L, am_rs r), s_12 ⟨rfl, rfl⟩, ?_⟩
  intro v h9 hv
  obtain ⟨rfl, rfl⟩ := hv
  refine am_E.run [8, 21] 2000 (show (if (f_12 x0) = 0 then (am_E S 11 (d + 2) 0 0 21 [.ref 0, .int x0, .int x1] [.int (-1), .ref 0] (N, am_ts T, I, L, am_rs r) Q) else (am_E S 11 (d + 2) 0 0 8 [.ref 0, .int x0, .int x1] [.int x1] (N, am_ts T, I, L, am_rs r) Q)) from ?_)
  by_cases hc : (f_12 x0) = 0
  · rw [if_pos hc] at hw ⊢
    refine am_E.go ⟨am_ki_I N T L r _, s_14 hw (fun q1 I2 hk => ⟨q1, I2, rfl, rfl, hk⟩), ?_⟩
    intro v h9 hv
    obtain ⟨q1, I2, rfl, rfl, hw⟩ := hv
    try dsimp only at hw
    refine am_E.run [] 2000 (show (True ∧ Q (some (.int q1)) (N, am_ts T, I2, L, am_rs r)) from ?_)
    exact ⟨trivial, hK _ _ hw⟩
  · rw [if_neg hc] at hw ⊢
    refine am_E.go ⟨fun v h9 => v = some (.int (f_12 x1)) ∧ h9 = (N, am_ts T, I, L, am_rs r), s_12 ⟨rfl, rfl⟩, ?_⟩
    intro v h9 hv
    obtain ⟨rfl, rfl⟩ := hv
    refine am_E.run [21, 40, 51] 2000 (show (if (f_12 x1) = 0 then (am_E S 11 (d + 2) 0 0 21 [.ref 0, .int x0, .int x1] [.int (-1), .ref 0] (N, am_ts T, I, L, am_rs r) Q) else (if x0 = x1 then (am_E S 11 (d + 2) 0 0 21 [.ref 0, .int x0, .int x1] [.int (-1), .ref 0] (N, am_ts T, I, L, am_rs r) Q) else (if (I 1 2) < 12 then (am_E S 11 (d + 2) 0 0 51 [.ref 0, .int x0, .int x1] [.int x1, .int x0, .ref 1, .ref 0] (N, am_ts T, I, L, am_rs r) Q) else (am_E S 11 (d + 2) 0 0 40 [.ref 0, .int x0, .int x1] [.int (-5), .ref 0] (N, am_ts T, I, L, am_rs r) Q)))) from ?_)
    by_cases hc : (f_12 x1) = 0
    · rw [if_pos hc] at hw ⊢
      refine am_E.go ⟨am_ki_I N T L r _, s_14 hw (fun q3 I4 hk => ⟨q3, I4, rfl, rfl, hk⟩), ?_⟩
      intro v h9 hv
      obtain ⟨q3, I4, rfl, rfl, hw⟩ := hv
      try dsimp only at hw
      refine am_E.run [] 2000 (show (True ∧ Q (some (.int q3)) (N, am_ts T, I4, L, am_rs r)) from ?_)
      exact ⟨trivial, hK _ _ hw⟩
    · rw [if_neg hc] at hw ⊢
      by_cases hc : x0 = x1
      · rw [if_pos hc] at hw ⊢
        refine am_E.go ⟨am_ki_I N T L r _, s_14 hw (fun q11 I12 hk => ⟨q11, I12, rfl, rfl, hk⟩), ?_⟩
        intro v h9 hv
        obtain ⟨q11, I12, rfl, rfl, hw⟩ := hv
        try dsimp only at hw
        refine am_E.run [] 2000 (show (True ∧ Q (some (.int q11)) (N, am_ts T, I12, L, am_rs r)) from ?_)
        exact ⟨trivial, hK _ _ hw⟩
      · rw [if_neg hc] at hw ⊢
        by_cases hc : (I 1 2) < 12
        · rw [if_pos hc] at hw ⊢
          refine am_E.go ⟨am_ki_I N T L r _, s_15 hw (fun q5 I6 hk => ⟨q5, I6, rfl, rfl, hk⟩), ?_⟩
          intro v h9 hv
          obtain ⟨q5, I6, rfl, rfl, hw⟩ := hv
          try dsimp only at hw
          show (am_E S 11 (d + 2) 0 0 54 [.ref 0, .int x0, .int x1] [.int q5, .ref 0] (N, am_ts T, I6, L, am_rs r) Q)
          refine am_E.go ⟨am_ki_I N T L r _, s_16 hw (fun q7 I8 hk => ⟨q7, I8, rfl, rfl, hk⟩), ?_⟩
          intro v h9 hv
          obtain ⟨q7, I8, rfl, rfl, hw⟩ := hv
          try dsimp only at hw
          refine am_E.run [] 2000 (show (True ∧ Q (some (.int q7)) (N, am_ts T, I8, L, am_rs r)) from ?_)
          exact ⟨trivial, hK _ _ hw⟩
        · rw [if_neg hc] at hw ⊢
          refine am_E.go ⟨am_ki_I N T L r _, s_14 hw (fun q9 I10 hk => ⟨q9, I10, rfl, rfl, hk⟩), ?_⟩
          intro v h9 hv
          obtain ⟨q9, I10, rfl, rfl, hw⟩ := hv
          try dsimp only at hw
          refine am_E.run [] 2000 (show (True ∧ Q (some (.int q9)) (N, am_ts T, I10, L, am_rs r)) from ?_)
          exact ⟨trivial, hK _ _ hw⟩
/-- KeyKeepers.prisoner(III)I -/
def w_22 (x0 : Int32) (x1 : Int32) (x2 : Int32) (I : am_I) (K : Int32 → am_I → Prop) : Prop :=
  if (f_23 x0 x1 x2) = 0 then
    w_14 (-1) I (fun q8 I9 =>
      K q8 I9)
  else
    if (I 1 10) < 8 then
      w_24 I (fun I1 =>
        w_25 x0 x1 x2 I1 (fun q2 I3 =>
          w_16 q2 I3 (fun q4 I5 =>
            K q4 I5)))
    else
      w_14 (-5) I (fun q6 I7 =>
        K q6 I7)
set_option maxRecDepth 100000 in
theorem s_22 {S : am_S} {d : Nat} {N : Nat} {T : Nat → Nat × Nat} {I : am_I} {L : am_J} {r : Nat → Nat → Option Nat} {Q : am_Q} {x0 : Int32} {x1 : Int32} {x2 : Int32} {K : Int32 → am_I → Prop} (hw : w_22 x0 x1 x2 I K) (hK : ∀ (q : Int32) (I1 : am_I), K q I1 → Q (some (.int q)) (N, am_ts T, I1, L, am_rs r)) : am_E S 22 (d + 3) 0 0 0 [.ref 0, .int x0, .int x1, .int x2] [] (N, am_ts T, I, L, am_rs r) Q := by
  unfold w_22 at hw
  try dsimp only at hw
  refine am_E.run [3] 2000 (show (am_E S 22 (d + 3) 0 0 3 [.ref 0, .int x0, .int x1, .int x2] [.int x2, .int x1, .int x0] (N, am_ts T, I, L, am_rs r) Q) from ?_)
  refine am_E.go ⟨fun v h9 => v = some (.int (f_23 x0 x1 x2)) ∧ h9 = (N, am_ts T, I, L, am_rs r), s_23 ⟨rfl, rfl⟩, ?_⟩
  intro v h9 hv
  obtain ⟨rfl, rfl⟩ := hv
  refine am_E.run [11, 30, 38] 2000 (show (if (f_23 x0 x1 x2) = 0 then (am_E S 22 (d + 3) 0 0 11 [.ref 0, .int x0, .int x1, .int x2] [.int (-1), .ref 0] (N, am_ts T, I, L, am_rs r) Q) else (if (I 1 10) < 8 then (am_E S 22 (d + 3) 0 0 38 [.ref 0, .int x0, .int x1, .int x2] [.ref 29] (N, am_ts T, I, L, am_rs r) Q) else (am_E S 22 (d + 3) 0 0 30 [.ref 0, .int x0, .int x1, .int x2] [.int (-5), .ref 0] (N, am_ts T, I, L, am_rs r) Q))) from ?_)
  by_cases hc : (f_23 x0 x1 x2) = 0
  · rw [if_pos hc] at hw ⊢
    refine am_E.go ⟨am_ki_I N T L r _, s_14 hw (fun q8 I9 hk => ⟨q8, I9, rfl, rfl, hk⟩), ?_⟩
    intro v h9 hv
    obtain ⟨q8, I9, rfl, rfl, hw⟩ := hv
    try dsimp only at hw
    refine am_E.run [] 2000 (show (True ∧ Q (some (.int q8)) (N, am_ts T, I9, L, am_rs r)) from ?_)
    exact ⟨trivial, hK _ _ hw⟩
  · rw [if_neg hc] at hw ⊢
    by_cases hc : (I 1 10) < 8
    · rw [if_pos hc] at hw ⊢
      refine am_E.go ⟨am_kv_I N T L r _, s_24 hw (fun I1 hk => ⟨I1, rfl, rfl, hk⟩), ?_⟩
      intro v h9 hv
      obtain ⟨I1, rfl, rfl, hw⟩ := hv
      try dsimp only at hw
      refine am_E.run [49] 2000 (show (am_E S 22 (d + 3) 0 0 49 [.ref 0, .int x0, .int x1, .int x2] [.int x2, .int x1, .int x0, .ref 1, .ref 0] (N, am_ts T, I1, L, am_rs r) Q) from ?_)
      refine am_E.go ⟨am_ki_I N T L r _, s_25 hw (fun q2 I3 hk => ⟨q2, I3, rfl, rfl, hk⟩), ?_⟩
      intro v h9 hv
      obtain ⟨q2, I3, rfl, rfl, hw⟩ := hv
      try dsimp only at hw
      show (am_E S 22 (d + 3) 0 0 52 [.ref 0, .int x0, .int x1, .int x2] [.int q2, .ref 0] (N, am_ts T, I3, L, am_rs r) Q)
      refine am_E.go ⟨am_ki_I N T L r _, s_16 hw (fun q4 I5 hk => ⟨q4, I5, rfl, rfl, hk⟩), ?_⟩
      intro v h9 hv
      obtain ⟨q4, I5, rfl, rfl, hw⟩ := hv
      try dsimp only at hw
      refine am_E.run [] 2000 (show (True ∧ Q (some (.int q4)) (N, am_ts T, I5, L, am_rs r)) from ?_)
      exact ⟨trivial, hK _ _ hw⟩
    · rw [if_neg hc] at hw ⊢
      refine am_E.go ⟨am_ki_I N T L r _, s_14 hw (fun q6 I7 hk => ⟨q6, I7, rfl, rfl, hk⟩), ?_⟩
      intro v h9 hv
      obtain ⟨q6, I7, rfl, rfl, hw⟩ := hv
      try dsimp only at hw
      refine am_E.run [] 2000 (show (True ∧ Q (some (.int q6)) (N, am_ts T, I7, L, am_rs r)) from ?_)
      exact ⟨trivial, hK _ _ hw⟩
def lw_35_28 : Nat → Int32 → Int32 → Int32 → am_I → (Int32 → Int32 → am_I → Prop) → Prop
  | 0, _, _, _, _, _ => False
  | n + 1, v1, v2, v3, I, E0 =>
    if v1 ≤ v3 then
      E0 v2 v3 I
    else
      if v1 ≤ (v3 + 2) then
        lw_35_28 n v1 v2 (v3 + 3) (am_u I 0 13 ((I 0 13) + 1)) E0
      else
        ¬ (v3 < 0 ∨ 400 ≤ Int32.toNatClampNeg v3) ∧
        ¬ ((v3 + 1) < 0 ∨ 400 ≤ Int32.toNatClampNeg (v3 + 1)) ∧
        ¬ ((v3 + 2) < 0 ∨ 400 ≤ Int32.toNatClampNeg (v3 + 2)) ∧
        w_36 (I 15 (Int32.toNatClampNeg v3)) (I 15 (Int32.toNatClampNeg (v3 + 1))) (I 15 (Int32.toNatClampNeg (v3 + 2))) I (fun q1 I2 =>
          if q1 = 0 then
            lw_35_28 n v1 v2 (v3 + 3) (am_u I2 0 13 ((I2 0 13) + 1)) E0
          else
            lw_35_28 n v1 (v2 + 1) (v3 + 3) I2 E0)
set_option maxRecDepth 100000 in
theorem sl_35_28 {S : am_S} {d : Nat} {Q : am_Q} {N : Nat} {T : Nat → Nat × Nat} {L : am_J} {r : Nat → Nat → Option Nat} {E0 : Int32 → Int32 → am_I → Prop} : ∀ (n : Nat) {v1 : Int32} {v2 : Int32} {v3 : Int32} {I : am_I}, lw_35_28 n v1 v2 v3 I E0 → (∀ (o2 : Int32) (o3 : Int32) (I1 : am_I), E0 o2 o3 I1 → am_E S 35 (d + 4) 0 0 100 [.ref 0, .int v1, .int o2, .int o3] [] (N, am_ts T, I1, L, am_rs r) Q) → am_E S 35 (d + 4) 0 0 28 [.ref 0, .int v1, .int v2, .int v3] [] (N, am_ts T, I, L, am_rs r) Q
  | 0, _, _, _, _, hw, _ => hw.elim
  | n + 1, v1, v2, v3, I, hw, hE0 => by
    have ih := @sl_35_28 S d Q N T L r E0 n
    unfold lw_35_28 at hw
    try dsimp only at hw
    refine am_E.run [28, 72, 100] 2000 (show (if v1 ≤ v3 then (am_E S 35 (d + 4) 0 0 100 [.ref 0, .int v1, .int v2, .int v3] [] (N, am_ts T, I, L, am_rs r) Q) else (if v1 ≤ (v3 + 2) then (am_E S 35 (d + 4) 0 0 28 [.ref 0, .int v1, .int v2, .int (v3 + 3)] [] (N, am_ts T, (am_u I 0 13 ((I 0 13) + 1)), L, am_rs r) Q) else (if v3 < 0 ∨ 400 ≤ Int32.toNatClampNeg v3 then False else (if (v3 + 1) < 0 ∨ 400 ≤ Int32.toNatClampNeg (v3 + 1) then False else (if (v3 + 2) < 0 ∨ 400 ≤ Int32.toNatClampNeg (v3 + 2) then False else (am_E S 35 (d + 4) 0 0 72 [.ref 0, .int v1, .int v2, .int v3] [.int (I 15 (Int32.toNatClampNeg (v3 + 2))), .int (I 15 (Int32.toNatClampNeg (v3 + 1))), .int (I 15 (Int32.toNatClampNeg v3)), .ref 0] (N, am_ts T, I, L, am_rs r) Q)))))) from ?_)
    by_cases hc : v1 ≤ v3
    · rw [if_pos hc] at hw ⊢
      exact hE0 _ _ _ hw
    · rw [if_neg hc] at hw ⊢
      by_cases hc : v1 ≤ (v3 + 2)
      · rw [if_pos hc] at hw ⊢
        exact ih hw hE0
      · rw [if_neg hc] at hw ⊢
        refine am_ifn hw.1 ?_
        replace hw := hw.2
        refine am_ifn hw.1 ?_
        replace hw := hw.2
        refine am_ifn hw.1 ?_
        replace hw := hw.2
        refine am_E.go ⟨am_ki_I N T L r _, s_36 hw (fun q1 I2 hk => ⟨q1, I2, rfl, rfl, hk⟩), ?_⟩
        intro v h9 hv
        obtain ⟨q1, I2, rfl, rfl, hw⟩ := hv
        try dsimp only at hw
        refine am_E.run [28] 2000 (show (if q1 = 0 then (am_E S 35 (d + 4) 0 0 28 [.ref 0, .int v1, .int v2, .int (v3 + 3)] [] (N, am_ts T, (am_u I2 0 13 ((I2 0 13) + 1)), L, am_rs r) Q) else (am_E S 35 (d + 4) 0 0 28 [.ref 0, .int v1, .int (v2 + 1), .int (v3 + 3)] [] (N, am_ts T, I2, L, am_rs r) Q)) from ?_)
        by_cases hc : q1 = 0
        · rw [if_pos hc] at hw ⊢
          exact ih hw hE0
        · rw [if_neg hc] at hw ⊢
          exact ih hw hE0
/-- KeyKeepers.row()I -/
def w_35 (I : am_I) (K : Int32 → am_I → Prop) : Prop :=
  if (I 14 1) = 0 then
    w_14 (-6) I (fun q9 I10 =>
      K q9 I10)
  else
    ∃ n28, lw_35_28 n28 (I 14 1) 0 0 (am_u I 0 13 0) (fun o3 o4 I5 =>
      w_24 (am_u I5 14 1 0) (fun I6 =>
        w_16 o3 I6 (fun q7 I8 =>
          K q7 I8)))
set_option maxRecDepth 100000 in
theorem s_35 {S : am_S} {d : Nat} {N : Nat} {T : Nat → Nat × Nat} {I : am_I} {L : am_J} {r : Nat → Nat → Option Nat} {Q : am_Q} {K : Int32 → am_I → Prop} (hw : w_35 I K) (hK : ∀ (q : Int32) (I1 : am_I), K q I1 → Q (some (.int q)) (N, am_ts T, I1, L, am_rs r)) : am_E S 35 (d + 4) 0 0 0 [.ref 0, am_jk, am_jk, am_jk] [] (N, am_ts T, I, L, am_rs r) Q := by
  unfold w_35 at hw
  try dsimp only at hw
  refine am_E.run [15, 28] 2000 (show (if (I 14 1) = 0 then (am_E S 35 (d + 4) 0 0 15 [.ref 0, .int (I 14 1), am_jk, am_jk] [.int (-6), .ref 0] (N, am_ts T, I, L, am_rs r) Q) else (am_E S 35 (d + 4) 0 0 28 [.ref 0, .int (I 14 1), .int 0, .int 0] [] (N, am_ts T, (am_u I 0 13 0), L, am_rs r) Q)) from ?_)
  by_cases hc : (I 14 1) = 0
  · rw [if_pos hc] at hw ⊢
    refine am_E.go ⟨am_ki_I N T L r _, s_14 hw (fun q9 I10 hk => ⟨q9, I10, rfl, rfl, hk⟩), ?_⟩
    intro v h9 hv
    obtain ⟨q9, I10, rfl, rfl, hw⟩ := hv
    try dsimp only at hw
    refine am_E.run [] 2000 (show (True ∧ Q (some (.int q9)) (N, am_ts T, I10, L, am_rs r)) from ?_)
    exact ⟨trivial, hK _ _ hw⟩
  · rw [if_neg hc] at hw ⊢
    obtain ⟨n28, hw⟩ := hw
    refine sl_35_28 n28 hw (fun o3 o4 I5 hw => ?_)
    · try dsimp only at hw
      refine am_E.run [112] 2000 (show (am_E S 35 (d + 4) 0 0 112 [.ref 0, .int (I 14 1), .int o3, .int o4] [.ref 29] (N, am_ts T, (am_u I5 14 1 0), L, am_rs r) Q) from ?_)
      refine am_E.go ⟨am_kv_I N T L r _, s_24 hw (fun I6 hk => ⟨I6, rfl, rfl, hk⟩), ?_⟩
      intro v h9 hv
      obtain ⟨I6, rfl, rfl, hw⟩ := hv
      try dsimp only at hw
      refine am_E.run [117] 2000 (show (am_E S 35 (d + 4) 0 0 117 [.ref 0, .int (I 14 1), .int o3, .int o4] [.int o3, .ref 0] (N, am_ts T, I6, L, am_rs r) Q) from ?_)
      refine am_E.go ⟨am_ki_I N T L r _, s_16 hw (fun q7 I8 hk => ⟨q7, I8, rfl, rfl, hk⟩), ?_⟩
      intro v h9 hv
      obtain ⟨q7, I8, rfl, rfl, hw⟩ := hv
      try dsimp only at hw
      refine am_E.run [] 2000 (show (True ∧ Q (some (.int q7)) (N, am_ts T, I8, L, am_rs r)) from ?_)
      exact ⟨trivial, hK _ _ hw⟩
/-- java/lang/StringLatin1.charAt([BI)C -/
def w_50 (x1 : Int32) (K : Int32 → Prop) : Prop :=
  w_51 x1 (Int32.ofNat (am_pe (0, fun _ => 0) 4).1) (
    ¬ (x1 < 0 ∨ (am_pe (0, fun _ => 0) 4).1 ≤ Int32.toNatClampNeg x1) ∧
    narrow .char (.int (UInt32.toInt32 (Int32.toUInt32 (((am_pe (0, fun _ => 0) 4).2 (Int32.toNatClampNeg x1)) &&& 255) % 65536))) = .int (UInt32.toInt32 (Int32.toUInt32 (((am_pe (0, fun _ => 0) 4).2 (Int32.toNatClampNeg x1)) &&& 255) % 65536)) ∧ K (UInt32.toInt32 (Int32.toUInt32 (((am_pe (0, fun _ => 0) 4).2 (Int32.toNatClampNeg x1)) &&& 255) % 65536)))
set_option maxRecDepth 100000 in
theorem s_50 {S : am_S} {d : Nat} {N : Nat} {T : Nat → Nat × Nat} {I : am_I} {L : am_J} {r : Nat → Nat → Option Nat} {Q : am_Q} {x1 : Int32} {K : Int32 → Prop} (hw : w_50 x1 K) (hK : ∀ (q : Int32), K q → Q (some (.int q)) (N, am_ts T, I, L, am_rs r)) : am_E S 50 (d + 2) 0 0 0 [.retAddr 4, .int x1] [] (N, am_ts T, I, L, am_rs r) Q := by
  unfold w_50 at hw
  try dsimp only at hw
  refine am_E.run [3] 2000 (show (am_E S 50 (d + 2) 0 0 3 [.retAddr 4, .int x1] [.int (Int32.ofNat (am_pe (0, fun _ => 0) 4).1), .int x1] (N, am_ts T, I, L, am_rs r) Q) from ?_)
  refine am_E.go ⟨am_kv_ N T I L r _, s_51 hw (fun hk => ⟨rfl, rfl, hk⟩), ?_⟩
  intro v h9 hv
  obtain ⟨rfl, rfl, hw⟩ := hv
  try dsimp only at hw
  refine am_E.run [] 2000 (show (if x1 < 0 ∨ (am_pe (0, fun _ => 0) 4).1 ≤ Int32.toNatClampNeg x1 then False else (narrow .char (.int (UInt32.toInt32 (Int32.toUInt32 (((am_pe (0, fun _ => 0) 4).2 (Int32.toNatClampNeg x1)) &&& 255) % 65536))) = .int (UInt32.toInt32 (Int32.toUInt32 (((am_pe (0, fun _ => 0) 4).2 (Int32.toNatClampNeg x1)) &&& 255) % 65536)) ∧ Q (some (.int (UInt32.toInt32 (Int32.toUInt32 (((am_pe (0, fun _ => 0) 4).2 (Int32.toNatClampNeg x1)) &&& 255) % 65536)))) (N, am_ts T, I, L, am_rs r))) from ?_)
  refine am_ifn hw.1 ?_
  replace hw := hw.2
  exact ⟨hw.1, hK _ hw.2⟩
/-- KeyKeepers$Reader.readIf()Z -/
def w_67 (I : am_I) (K : Int32 → am_I → Prop) : Prop :=
  w_62 1000008 I (fun q1 I2 =>
    if q1 = 0 then
      K 1 I2
    else
      wx_68 0 I2 (fun q3 I4 =>
        if q3 = 0 then
          K 0 I4
        else
          w_57 4 I4 (fun I5 =>
            K 1 I5)))
set_option maxRecDepth 100000 in
theorem s_67 {S : am_S} {d : Nat} {N : Nat} {T : Nat → Nat × Nat} {I : am_I} {L : am_J} {r : Nat → Nat → Option Nat} {Q : am_Q} {K : Int32 → am_I → Prop} (hw : w_67 I K) (hK : ∀ (q : Int32) (I1 : am_I), K q I1 → Q (some (.int q)) (N, am_ts T, I1, L, am_rs r)) : am_E S 67 (d + 44) 0 0 0 [.ref 14] [] (N, am_ts T, I, L, am_rs r) Q := by
  unfold w_67 at hw
  try dsimp only at hw
  refine am_E.run [3] 2000 (show (am_E S 67 (d + 44) 0 0 3 [.ref 14] [.int 1000008, .ref 14] (N, am_ts T, I, L, am_rs r) Q) from ?_)
  refine am_E.go ⟨am_ki_I N T L r _, s_62 hw (fun q1 I2 hk => ⟨q1, I2, rfl, rfl, hk⟩), ?_⟩
  intro v h9 hv
  obtain ⟨q1, I2, rfl, rfl, hw⟩ := hv
  try dsimp only at hw
  refine am_E.run [13] 2000 (show (if q1 = 0 then (((1 : Int32) = 0 ∨ (1 : Int32) = 1) ∧ Q (some (.int 1)) (N, am_ts T, I2, L, am_rs r)) else (am_E S 67 (d + 44) 0 0 13 [.ref 14] [.int 0, .ref 14] (N, am_ts T, I2, L, am_rs r) Q)) from ?_)
  by_cases hc : q1 = 0
  · rw [if_pos hc] at hw ⊢
    exact ⟨Or.inr rfl, hK _ _ hw⟩
  · rw [if_neg hc] at hw ⊢
    refine am_E.go ⟨am_ki_I N T L r _, sx_68 hw (fun q3 I4 hk => ⟨q3, I4, rfl, rfl, hk⟩), ?_⟩
    intro v h9 hv
    obtain ⟨q3, I4, rfl, rfl, hw⟩ := hv
    try dsimp only at hw
    refine am_E.run [26] 2000 (show (if q3 = 0 then (((0 : Int32) = 0 ∨ (0 : Int32) = 1) ∧ Q (some (.int 0)) (N, am_ts T, I4, L, am_rs r)) else (am_E S 67 (d + 44) 0 0 26 [.ref 14] [.int 4, .ref 16] (N, am_ts T, I4, L, am_rs r) Q)) from ?_)
    by_cases hc : q3 = 0
    · rw [if_pos hc] at hw ⊢
      exact ⟨Or.inl rfl, hK _ _ hw⟩
    · rw [if_neg hc] at hw ⊢
      refine am_E.go ⟨am_kv_I N T L r _, s_57 hw (fun I5 hk => ⟨I5, rfl, rfl, hk⟩), ?_⟩
      intro v h9 hv
      obtain ⟨I5, rfl, rfl, hw⟩ := hv
      try dsimp only at hw
      refine am_E.run [] 2000 (show (((1 : Int32) = 0 ∨ (1 : Int32) = 1) ∧ Q (some (.int 1)) (N, am_ts T, I5, L, am_rs r)) from ?_)
      exact ⟨Or.inr rfl, hK _ _ hw⟩
/-- KeyKeepers$Reader.readOrderClause()Z -/
def w_72 (I : am_I) (K : Int32 → am_I → Prop) : Prop :=
  if (f_13 (((I 14 8) - 1000000) - 4) 0 3) = 0 then
    K 0 I
  else
    w_56 (((I 14 8) - 1000000) - 4) I (fun I1 =>
      w_58 I1 (fun I2 =>
        if (((I 14 8) - 1000000) - 4) = 0 then
          w_73 1 10 I2 (fun q17 I18 =>
            if q17 = 0 then
              K 0 I18
            else
              w_73 2 (-1) I18 (fun q19 I20 =>
                if q19 = 0 then
                  K 0 I20
                else
                  w_74 I20 (fun q21 I22 =>
                    if q21 = 0 then
                      K 0 I22
                    else
                      w_67 I22 (fun q23 I24 =>
                        if q23 = 0 then
                          K 0 I24
                        else
                          K 1 I24))))
        else
          if (((I 14 8) - 1000000) - 4) = 1 then
            w_73 1 11 I2 (fun q7 I8 =>
              if q7 = 0 then
                K 0 I8
              else
                w_73 2 12 I8 (fun q9 I10 =>
                  if q9 = 0 then
                    K 0 I10
                  else
                    w_73 3 (-1) I10 (fun q11 I12 =>
                      if q11 = 0 then
                        K 0 I12
                      else
                        w_74 I12 (fun q13 I14 =>
                          if q13 = 0 then
                            K 0 I14
                          else
                            w_67 I14 (fun q15 I16 =>
                              if q15 = 0 then
                                K 0 I16
                              else
                                K 1 I16)))))
          else
            w_74 I2 (fun q3 I4 =>
              if q3 = 0 then
                K 0 I4
              else
                w_67 I4 (fun q5 I6 =>
                  if q5 = 0 then
                    K 0 I6
                  else
                    K 1 I6))))
set_option maxRecDepth 100000 in
theorem s_72 {S : am_S} {d : Nat} {N : Nat} {T : Nat → Nat × Nat} {I : am_I} {L : am_J} {r : Nat → Nat → Option Nat} {Q : am_Q} {K : Int32 → am_I → Prop} (hw : w_72 I K) (hK : ∀ (q : Int32) (I1 : am_I), K q I1 → Q (some (.int q)) (N, am_ts T, I1, L, am_rs r)) : am_E S 72 (d + 45) 0 0 0 [.ref 14, am_jk, am_jk] [] (N, am_ts T, I, L, am_rs r) Q := by
  unfold w_72 at hw
  try dsimp only at hw
  refine am_E.run [13] 2000 (show (am_E S 72 (d + 45) 0 0 13 [.ref 14, .int (((I 14 8) - 1000000) - 4), am_jk] [.int 3, .int 0, .int (((I 14 8) - 1000000) - 4)] (N, am_ts T, I, L, am_rs r) Q) from ?_)
  refine am_E.go ⟨fun v h9 => v = some (.int (f_13 (((I 14 8) - 1000000) - 4) 0 3)) ∧ h9 = (N, am_ts T, I, L, am_rs r), s_13 ⟨rfl, rfl⟩, ?_⟩
  intro v h9 hv
  obtain ⟨rfl, rfl⟩ := hv
  refine am_E.run [26] 2000 (show (if (f_13 (((I 14 8) - 1000000) - 4) 0 3) = 0 then (((0 : Int32) = 0 ∨ (0 : Int32) = 1) ∧ Q (some (.int 0)) (N, am_ts T, I, L, am_rs r)) else (am_E S 72 (d + 45) 0 0 26 [.ref 14, .int (((I 14 8) - 1000000) - 4), am_jk] [.int (((I 14 8) - 1000000) - 4), .ref 16] (N, am_ts T, I, L, am_rs r) Q)) from ?_)
  by_cases hc : (f_13 (((I 14 8) - 1000000) - 4) 0 3) = 0
  · rw [if_pos hc] at hw ⊢
    exact ⟨Or.inl rfl, hK _ _ hw⟩
  · rw [if_neg hc] at hw ⊢
    refine am_E.go ⟨am_kv_I N T L r _, s_56 hw (fun I1 hk => ⟨I1, rfl, rfl, hk⟩), ?_⟩
    intro v h9 hv
    obtain ⟨I1, rfl, rfl, hw⟩ := hv
    try dsimp only at hw
    refine am_E.run [30] 2000 (show (am_E S 72 (d + 45) 0 0 30 [.ref 14, .int (((I 14 8) - 1000000) - 4), am_jk] [.ref 14] (N, am_ts T, I1, L, am_rs r) Q) from ?_)
    refine am_E.go ⟨am_kv_I N T L r _, s_58 hw (fun I2 hk => ⟨I2, rfl, rfl, hk⟩), ?_⟩
    intro v h9 hv
    obtain ⟨I2, rfl, rfl, hw⟩ := hv
    try dsimp only at hw
    refine am_E.run [43, 76, 112] 2000 (show (if (((I 14 8) - 1000000) - 4) = 0 then (am_E S 72 (d + 45) 0 0 43 [.ref 14, .int (((I 14 8) - 1000000) - 4), .int 1] [.int 10, .int 1, .ref 14] (N, am_ts T, I2, L, am_rs r) Q) else (if (((I 14 8) - 1000000) - 4) = 1 then (am_E S 72 (d + 45) 0 0 76 [.ref 14, .int (((I 14 8) - 1000000) - 4), .int 1] [.int 11, .int 1, .ref 14] (N, am_ts T, I2, L, am_rs r) Q) else (am_E S 72 (d + 45) 0 0 112 [.ref 14, .int (((I 14 8) - 1000000) - 4), .int 1] [.ref 14] (N, am_ts T, I2, L, am_rs r) Q))) from ?_)
    by_cases hc : (((I 14 8) - 1000000) - 4) = 0
    · rw [if_pos hc] at hw ⊢
      refine am_E.go ⟨am_ki_I N T L r _, s_73 hw (fun q17 I18 hk => ⟨q17, I18, rfl, rfl, hk⟩), ?_⟩
      intro v h9 hv
      obtain ⟨q17, I18, rfl, rfl, hw⟩ := hv
      try dsimp only at hw
      refine am_E.run [52] 2000 (show (if q17 = 0 then (((0 : Int32) = 0 ∨ (0 : Int32) = 1) ∧ Q (some (.int 0)) (N, am_ts T, I18, L, am_rs r)) else (am_E S 72 (d + 45) 0 0 52 [.ref 14, .int (((I 14 8) - 1000000) - 4), .int 1] [.int (-1), .int 2, .ref 14] (N, am_ts T, I18, L, am_rs r) Q)) from ?_)
      by_cases hc : q17 = 0
      · rw [if_pos hc] at hw ⊢
        exact ⟨Or.inl rfl, hK _ _ hw⟩
      · rw [if_neg hc] at hw ⊢
        refine am_E.go ⟨am_ki_I N T L r _, s_73 hw (fun q19 I20 hk => ⟨q19, I20, rfl, rfl, hk⟩), ?_⟩
        intro v h9 hv
        obtain ⟨q19, I20, rfl, rfl, hw⟩ := hv
        try dsimp only at hw
        refine am_E.run [112] 2000 (show (if q19 = 0 then (((0 : Int32) = 0 ∨ (0 : Int32) = 1) ∧ Q (some (.int 0)) (N, am_ts T, I20, L, am_rs r)) else (am_E S 72 (d + 45) 0 0 112 [.ref 14, .int (((I 14 8) - 1000000) - 4), .int 1] [.ref 14] (N, am_ts T, I20, L, am_rs r) Q)) from ?_)
        by_cases hc : q19 = 0
        · rw [if_pos hc] at hw ⊢
          exact ⟨Or.inl rfl, hK _ _ hw⟩
        · rw [if_neg hc] at hw ⊢
          refine am_E.go ⟨am_ki_I N T L r _, s_74 hw (fun q21 I22 hk => ⟨q21, I22, rfl, rfl, hk⟩), ?_⟩
          intro v h9 hv
          obtain ⟨q21, I22, rfl, rfl, hw⟩ := hv
          try dsimp only at hw
          refine am_E.run [119] 2000 (show (if q21 = 0 then (((0 : Int32) = 0 ∨ (0 : Int32) = 1) ∧ Q (some (.int 0)) (N, am_ts T, I22, L, am_rs r)) else (am_E S 72 (d + 45) 0 0 119 [.ref 14, .int (((I 14 8) - 1000000) - 4), .int 1] [.ref 14] (N, am_ts T, I22, L, am_rs r) Q)) from ?_)
          by_cases hc : q21 = 0
          · rw [if_pos hc] at hw ⊢
            exact ⟨Or.inl rfl, hK _ _ hw⟩
          · rw [if_neg hc] at hw ⊢
            refine am_E.go ⟨am_ki_I N T L r _, s_67 hw (fun q23 I24 hk => ⟨q23, I24, rfl, rfl, hk⟩), ?_⟩
            intro v h9 hv
            obtain ⟨q23, I24, rfl, rfl, hw⟩ := hv
            try dsimp only at hw
            refine am_E.run [] 2000 (show (if q23 = 0 then (((0 : Int32) = 0 ∨ (0 : Int32) = 1) ∧ Q (some (.int 0)) (N, am_ts T, I24, L, am_rs r)) else (((1 : Int32) = 0 ∨ (1 : Int32) = 1) ∧ Q (some (.int 1)) (N, am_ts T, I24, L, am_rs r))) from ?_)
            by_cases hc : q23 = 0
            · rw [if_pos hc] at hw ⊢
              exact ⟨Or.inl rfl, hK _ _ hw⟩
            · rw [if_neg hc] at hw ⊢
              exact ⟨Or.inr rfl, hK _ _ hw⟩
    · rw [if_neg hc] at hw ⊢
      by_cases hc : (((I 14 8) - 1000000) - 4) = 1
      · rw [if_pos hc] at hw ⊢
        refine am_E.go ⟨am_ki_I N T L r _, s_73 hw (fun q7 I8 hk => ⟨q7, I8, rfl, rfl, hk⟩), ?_⟩
        intro v h9 hv
        obtain ⟨q7, I8, rfl, rfl, hw⟩ := hv
        try dsimp only at hw
        refine am_E.run [86] 2000 (show (if q7 = 0 then (((0 : Int32) = 0 ∨ (0 : Int32) = 1) ∧ Q (some (.int 0)) (N, am_ts T, I8, L, am_rs r)) else (am_E S 72 (d + 45) 0 0 86 [.ref 14, .int (((I 14 8) - 1000000) - 4), .int 1] [.int 12, .int 2, .ref 14] (N, am_ts T, I8, L, am_rs r) Q)) from ?_)
        by_cases hc : q7 = 0
        · rw [if_pos hc] at hw ⊢
          exact ⟨Or.inl rfl, hK _ _ hw⟩
        · rw [if_neg hc] at hw ⊢
          refine am_E.go ⟨am_ki_I N T L r _, s_73 hw (fun q9 I10 hk => ⟨q9, I10, rfl, rfl, hk⟩), ?_⟩
          intro v h9 hv
          obtain ⟨q9, I10, rfl, rfl, hw⟩ := hv
          try dsimp only at hw
          refine am_E.run [95] 2000 (show (if q9 = 0 then (((0 : Int32) = 0 ∨ (0 : Int32) = 1) ∧ Q (some (.int 0)) (N, am_ts T, I10, L, am_rs r)) else (am_E S 72 (d + 45) 0 0 95 [.ref 14, .int (((I 14 8) - 1000000) - 4), .int 1] [.int (-1), .int 3, .ref 14] (N, am_ts T, I10, L, am_rs r) Q)) from ?_)
          by_cases hc : q9 = 0
          · rw [if_pos hc] at hw ⊢
            exact ⟨Or.inl rfl, hK _ _ hw⟩
          · rw [if_neg hc] at hw ⊢
            refine am_E.go ⟨am_ki_I N T L r _, s_73 hw (fun q11 I12 hk => ⟨q11, I12, rfl, rfl, hk⟩), ?_⟩
            intro v h9 hv
            obtain ⟨q11, I12, rfl, rfl, hw⟩ := hv
            try dsimp only at hw
            refine am_E.run [112] 2000 (show (if q11 = 0 then (((0 : Int32) = 0 ∨ (0 : Int32) = 1) ∧ Q (some (.int 0)) (N, am_ts T, I12, L, am_rs r)) else (am_E S 72 (d + 45) 0 0 112 [.ref 14, .int (((I 14 8) - 1000000) - 4), .int 1] [.ref 14] (N, am_ts T, I12, L, am_rs r) Q)) from ?_)
            by_cases hc : q11 = 0
            · rw [if_pos hc] at hw ⊢
              exact ⟨Or.inl rfl, hK _ _ hw⟩
            · rw [if_neg hc] at hw ⊢
              refine am_E.go ⟨am_ki_I N T L r _, s_74 hw (fun q13 I14 hk => ⟨q13, I14, rfl, rfl, hk⟩), ?_⟩
              intro v h9 hv
              obtain ⟨q13, I14, rfl, rfl, hw⟩ := hv
              try dsimp only at hw
              refine am_E.run [119] 2000 (show (if q13 = 0 then (((0 : Int32) = 0 ∨ (0 : Int32) = 1) ∧ Q (some (.int 0)) (N, am_ts T, I14, L, am_rs r)) else (am_E S 72 (d + 45) 0 0 119 [.ref 14, .int (((I 14 8) - 1000000) - 4), .int 1] [.ref 14] (N, am_ts T, I14, L, am_rs r) Q)) from ?_)
              by_cases hc : q13 = 0
              · rw [if_pos hc] at hw ⊢
                exact ⟨Or.inl rfl, hK _ _ hw⟩
              · rw [if_neg hc] at hw ⊢
                refine am_E.go ⟨am_ki_I N T L r _, s_67 hw (fun q15 I16 hk => ⟨q15, I16, rfl, rfl, hk⟩), ?_⟩
                intro v h9 hv
                obtain ⟨q15, I16, rfl, rfl, hw⟩ := hv
                try dsimp only at hw
                refine am_E.run [] 2000 (show (if q15 = 0 then (((0 : Int32) = 0 ∨ (0 : Int32) = 1) ∧ Q (some (.int 0)) (N, am_ts T, I16, L, am_rs r)) else (((1 : Int32) = 0 ∨ (1 : Int32) = 1) ∧ Q (some (.int 1)) (N, am_ts T, I16, L, am_rs r))) from ?_)
                by_cases hc : q15 = 0
                · rw [if_pos hc] at hw ⊢
                  exact ⟨Or.inl rfl, hK _ _ hw⟩
                · rw [if_neg hc] at hw ⊢
                  exact ⟨Or.inr rfl, hK _ _ hw⟩
      · rw [if_neg hc] at hw ⊢
        refine am_E.go ⟨am_ki_I N T L r _, s_74 hw (fun q3 I4 hk => ⟨q3, I4, rfl, rfl, hk⟩), ?_⟩
        intro v h9 hv
        obtain ⟨q3, I4, rfl, rfl, hw⟩ := hv
        try dsimp only at hw
        refine am_E.run [119] 2000 (show (if q3 = 0 then (((0 : Int32) = 0 ∨ (0 : Int32) = 1) ∧ Q (some (.int 0)) (N, am_ts T, I4, L, am_rs r)) else (am_E S 72 (d + 45) 0 0 119 [.ref 14, .int (((I 14 8) - 1000000) - 4), .int 1] [.ref 14] (N, am_ts T, I4, L, am_rs r) Q)) from ?_)
        by_cases hc : q3 = 0
        · rw [if_pos hc] at hw ⊢
          exact ⟨Or.inl rfl, hK _ _ hw⟩
        · rw [if_neg hc] at hw ⊢
          refine am_E.go ⟨am_ki_I N T L r _, s_67 hw (fun q5 I6 hk => ⟨q5, I6, rfl, rfl, hk⟩), ?_⟩
          intro v h9 hv
          obtain ⟨q5, I6, rfl, rfl, hw⟩ := hv
          try dsimp only at hw
          refine am_E.run [] 2000 (show (if q5 = 0 then (((0 : Int32) = 0 ∨ (0 : Int32) = 1) ∧ Q (some (.int 0)) (N, am_ts T, I6, L, am_rs r)) else (((1 : Int32) = 0 ∨ (1 : Int32) = 1) ∧ Q (some (.int 1)) (N, am_ts T, I6, L, am_rs r))) from ?_)
          by_cases hc : q5 = 0
          · rw [if_pos hc] at hw ⊢
            exact ⟨Or.inl rfl, hK _ _ hw⟩
          · rw [if_neg hc] at hw ⊢
            exact ⟨Or.inr rfl, hK _ _ hw⟩
