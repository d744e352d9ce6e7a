def lw_40_6 : Nat → Int32 → Int32 → Int32 → am_I → (Int32 → Int32 → Int32 → am_I → Prop) → Prop
  | 0, _, _, _, _, _ => False
  | n + 1, v1, v2, v3, I, E0 =>
    if (400 : Int32) ≤ v3 then
      E0 v1 v2 v3 I
    else
      if (I 14 1) ≤ v2 then
        E0 v1 v2 v3 I
      else
        ¬ (v2 < 0 ∨ 400 ≤ Int32.toNatClampNeg v2) ∧
        if (I 15 (Int32.toNatClampNeg v2)) = 32 then
          lw_40_6 n v1 (v2 + 1) (v3 + 1) I E0
        else
          w_41 v2 I (fun q1 =>
            ¬ (v1 < 0 ∨ 401 ≤ Int32.toNatClampNeg v1) ∧
            w_44 v2 q1 (am_u I 22 (Int32.toNatClampNeg v1) v2) (fun q2 =>
              ¬ (v1 < 0 ∨ 401 ≤ Int32.toNatClampNeg v1) ∧
              lw_40_6 n (v1 + 1) q1 (v3 + 1) (am_u (am_u I 22 (Int32.toNatClampNeg v1) v2) 21 (Int32.toNatClampNeg v1) q2) E0))
set_option maxRecDepth 100000 in
theorem sl_40_6 {S : am_S} {d : Nat} {Q : am_Q} {N : Nat} {T : Nat → Nat × Nat} {L : am_J} {r : Nat → Nat → Option Nat} {E0 : Int32 → Int32 → Int32 → am_I → Prop} : ∀ (n : Nat) {v1 : Int32} {v2 : Int32} {v3 : Int32} {I : am_I}, lw_40_6 n v1 v2 v3 I E0 → (∀ (o1 : Int32) (o2 : Int32) (o3 : Int32) (I1 : am_I), E0 o1 o2 o3 I1 → am_E S 40 (d + 7) 0 0 76 [.ref 14, .int o1, .int o2, .int o3, am_jk] [] (N, am_ts T, I1, L, am_rs r) Q) → am_E S 40 (d + 7) 0 0 6 [.ref 14, .int v1, .int v2, .int v3, am_jk] [] (N, am_ts T, I, L, am_rs r) Q
  | 0, _, _, _, _, hw, _ => hw.elim
  | n + 1, v1, v2, v3, I, hw, hE0 => by
    have ih := @sl_40_6 S d Q N T L r E0 n
    unfold lw_40_6 at hw
    try dsimp only at hw
    refine am_E.run [6, 39, 76] 2000 (show (if (400 : Int32) ≤ v3 then (am_E S 40 (d + 7) 0 0 76 [.ref 14, .int v1, .int v2, .int v3, am_jk] [] (N, am_ts T, I, L, am_rs r) Q) else (if (I 14 1) ≤ v2 then (am_E S 40 (d + 7) 0 0 76 [.ref 14, .int v1, .int v2, .int v3, am_jk] [] (N, am_ts T, I, L, am_rs r) Q) else (if v2 < 0 ∨ 400 ≤ Int32.toNatClampNeg v2 then False else (if (I 15 (Int32.toNatClampNeg v2)) = 32 then (am_E S 40 (d + 7) 0 0 6 [.ref 14, .int v1, .int (v2 + 1), .int (v3 + 1), .int (v2 + 1)] [] (N, am_ts T, I, L, am_rs r) Q) else (am_E S 40 (d + 7) 0 0 39 [.ref 14, .int v1, .int v2, .int v3, .int (v2 + 1)] [.int v2, .ref 14] (N, am_ts T, I, L, am_rs r) Q))))) from ?_)
    by_cases hc : (400 : Int32) ≤ v3
    · rw [if_pos hc] at hw ⊢
      exact hE0 _ _ _ _ hw
    · rw [if_neg hc] at hw ⊢
      by_cases hc : (I 14 1) ≤ v2
      · rw [if_pos hc] at hw ⊢
        exact hE0 _ _ _ _ hw
      · rw [if_neg hc] at hw ⊢
        refine am_ifn hw.1 ?_
        replace hw := hw.2
        by_cases hc : (I 15 (Int32.toNatClampNeg v2)) = 32
        · rw [if_pos hc] at hw ⊢
          exact am_E.junk (ih hw hE0) (am_le.cons (am_le.cons (am_le.cons (am_le.cons (am_le.jk am_le.nil)))))
        · rw [if_neg hc] at hw ⊢
          refine am_E.go ⟨am_ki_ N T I L r _, s_41 hw (fun q1 hk => ⟨q1, rfl, rfl, hk⟩), ?_⟩
          intro v h9 hv
          obtain ⟨q1, rfl, rfl, hw⟩ := hv
          try dsimp only at hw
          refine am_E.run [60] 2000 (show (if v1 < 0 ∨ 401 ≤ Int32.toNatClampNeg v1 then False else (am_E S 40 (d + 7) 0 0 60 [.ref 14, .int v1, .int v2, .int v3, .int q1] [.int q1, .int v2, .ref 14, .int v1, .ref 21] (N, am_ts T, (am_u I 22 (Int32.toNatClampNeg v1) v2), L, am_rs r) Q)) from ?_)
          refine am_ifn hw.1 ?_
          replace hw := hw.2
          refine am_E.go ⟨am_ki_ N T (am_u I 22 (Int32.toNatClampNeg v1) v2) L r _, s_44 hw (fun q2 hk => ⟨q2, rfl, rfl, hk⟩), ?_⟩
          intro v h9 hv
          obtain ⟨q2, rfl, rfl, hw⟩ := hv
          try dsimp only at hw
          refine am_E.run [6] 2000 (show (if v1 < 0 ∨ 401 ≤ Int32.toNatClampNeg v1 then False else (am_E S 40 (d + 7) 0 0 6 [.ref 14, .int (v1 + 1), .int q1, .int (v3 + 1), .int q1] [] (N, am_ts T, (am_u (am_u I 22 (Int32.toNatClampNeg v1) v2) 21 (Int32.toNatClampNeg v1) q2), L, am_rs r) Q)) from ?_)
          refine am_ifn hw.1 ?_
          replace hw := hw.2
          exact am_E.junk (ih hw hE0) (am_le.cons (am_le.cons (am_le.cons (am_le.cons (am_le.jk am_le.nil)))))
/-- KeyKeepers$Reader.splitTape()V -/
def w_40 (I : am_I) (K : am_I → Prop) : Prop :=
  ∃ n6, lw_40_6 n6 0 0 0 I (fun o3 o4 o5 I6 =>
    ¬ (o3 < 0 ∨ 401 ≤ Int32.toNatClampNeg o3) ∧
    ¬ (o3 < 0 ∨ 401 ≤ Int32.toNatClampNeg o3) ∧
    K (am_u (am_u I6 22 (Int32.toNatClampNeg o3) (I6 14 1)) 21 (Int32.toNatClampNeg o3) 3000000))
set_option maxRecDepth 100000 in
theorem s_40 {S : am_S} {d : Nat} {N : Nat} {T : Nat → Nat × Nat} {I : am_I} {L : am_J} {r : Nat → Nat → Option Nat} {Q : am_Q} {K : am_I → Prop} (hw : w_40 I K) (hK : ∀ (I1 : am_I), K I1 → Q (none) (N, am_ts T, I1, L, am_rs r)) : am_E S 40 (d + 7) 0 0 0 [.ref 14, am_jk, am_jk, am_jk, am_jk] [] (N, am_ts T, I, L, am_rs r) Q := by
  unfold w_40 at hw
  try dsimp only at hw
  refine am_E.run [6] 2000 (show (am_E S 40 (d + 7) 0 0 6 [.ref 14, .int 0, .int 0, .int 0, am_jk] [] (N, am_ts T, I, L, am_rs r) Q) from ?_)
  obtain ⟨n6, hw⟩ := hw
  refine sl_40_6 n6 hw (fun o3 o4 o5 I6 hw => ?_)
  · try dsimp only at hw
    refine am_E.run [] 2000 (show (if o3 < 0 ∨ 401 ≤ Int32.toNatClampNeg o3 then False else (if o3 < 0 ∨ 401 ≤ Int32.toNatClampNeg o3 then False else (True ∧ Q (none) (N, am_ts T, (am_u (am_u I6 22 (Int32.toNatClampNeg o3) (I6 14 1)) 21 (Int32.toNatClampNeg o3) 3000000), L, am_rs r)))) from ?_)
    refine am_ifn hw.1 ?_
    replace hw := hw.2
    refine am_ifn hw.1 ?_
    replace hw := hw.2
    exact ⟨trivial, hK _ hw⟩
def lw_204_110 : Nat → Int32 → Int32 → am_I → am_J → (Int32 → am_I → Prop) → Prop
  | 0, _, _, _, _, _ => False
  | n + 1, v1, v2, I, L, E0 =>
    if (8 * (I 66 21)) ≤ v2 then
      E0 v2 I
    else
      ¬ (v2 < 0 ∨ 96 ≤ Int32.toNatClampNeg v2) ∧
      ¬ (((v1 + 2) + v2) < 0 ∨ 5510 ≤ Int32.toNatClampNeg ((v1 + 2) + v2)) ∧
      lw_204_110 n v1 (v2 + 1) (am_u I 68 (Int32.toNatClampNeg ((v1 + 2) + v2)) (I 76 (Int32.toNatClampNeg v2))) L E0
set_option maxRecDepth 100000 in
theorem sl_204_110 {S : am_S} {d : Nat} {Q : am_Q} {N : Nat} {T : Nat → Nat × Nat} {L : am_J} {r : Nat → Nat → Option Nat} {E0 : Int32 → am_I → Prop} : ∀ (n : Nat) {v1 : Int32} {v2 : Int32} {I : am_I}, lw_204_110 n v1 v2 I L E0 → (∀ (o2 : Int32) (I1 : am_I), E0 o2 I1 → am_E S 204 (d + 8) 0 0 143 [.ref 66, .int v1, .int o2] [] (N, am_ts T, I1, L, am_rs r) Q) → am_E S 204 (d + 8) 0 0 110 [.ref 66, .int v1, .int v2] [] (N, am_ts T, I, L, am_rs r) Q
  | 0, _, _, _, hw, _ => hw.elim
  | n + 1, v1, v2, I, hw, hE0 => by
    have ih := @sl_204_110 S d Q N T L r E0 n
    unfold lw_204_110 at hw
    try dsimp only at hw
    refine am_E.run [110, 143] 2000 (show (if (8 * (I 66 21)) ≤ v2 then (am_E S 204 (d + 8) 0 0 143 [.ref 66, .int v1, .int v2] [] (N, am_ts T, I, L, am_rs r) Q) else (if v2 < 0 ∨ 96 ≤ Int32.toNatClampNeg v2 then False else (if ((v1 + 2) + v2) < 0 ∨ 5510 ≤ Int32.toNatClampNeg ((v1 + 2) + v2) then False else (am_E S 204 (d + 8) 0 0 110 [.ref 66, .int v1, .int (v2 + 1)] [] (N, am_ts T, (am_u I 68 (Int32.toNatClampNeg ((v1 + 2) + v2)) (I 76 (Int32.toNatClampNeg v2))), L, am_rs r) Q)))) from ?_)
    by_cases hc : (8 * (I 66 21)) ≤ v2
    · rw [if_pos hc] at hw ⊢
      exact hE0 _ _ hw
    · rw [if_neg hc] at hw ⊢
      refine am_ifn hw.1 ?_
      replace hw := hw.2
      refine am_ifn hw.1 ?_
      replace hw := hw.2
      exact ih hw hE0
def lw_204_145 : Nat → Int32 → Int32 → am_I → am_J → (Int32 → am_I → Prop) → Prop
  | 0, _, _, _, _, _ => False
  | n + 1, v1, v2, I, L, E0 =>
    if (I 66 23) ≤ v2 then
      E0 v2 I
    else
      ¬ (v2 < 0 ∨ 400 ≤ Int32.toNatClampNeg v2) ∧
      ¬ (((v1 + 98) + (2 * v2)) < 0 ∨ 5510 ≤ Int32.toNatClampNeg ((v1 + 98) + (2 * v2))) ∧
      ¬ (v2 < 0 ∨ 400 ≤ Int32.toNatClampNeg v2) ∧
      ¬ ((((v1 + 98) + (2 * v2)) + 1) < 0 ∨ 5510 ≤ Int32.toNatClampNeg (((v1 + 98) + (2 * v2)) + 1)) ∧
      lw_204_145 n v1 (v2 + 1) (am_u (am_u I 68 (Int32.toNatClampNeg ((v1 + 98) + (2 * v2))) (I 77 (Int32.toNatClampNeg v2))) 68 (Int32.toNatClampNeg (((v1 + 98) + (2 * v2)) + 1)) (I 78 (Int32.toNatClampNeg v2))) L E0
set_option maxRecDepth 100000 in
theorem sl_204_145 {S : am_S} {d : Nat} {Q : am_Q} {N : Nat} {T : Nat → Nat × Nat} {L : am_J} {r : Nat → Nat → Option Nat} {E0 : Int32 → am_I → Prop} : ∀ (n : Nat) {v1 : Int32} {v2 : Int32} {I : am_I}, lw_204_145 n v1 v2 I L E0 → (∀ (o2 : Int32) (I1 : am_I), E0 o2 I1 → am_E S 204 (d + 8) 0 0 199 [.ref 66, .int v1, .int o2] [] (N, am_ts T, I1, L, am_rs r) Q) → am_E S 204 (d + 8) 0 0 145 [.ref 66, .int v1, .int v2] [] (N, am_ts T, I, L, am_rs r) Q
  | 0, _, _, _, hw, _ => hw.elim
  | n + 1, v1, v2, I, hw, hE0 => by
    have ih := @sl_204_145 S d Q N T L r E0 n
    unfold lw_204_145 at hw
    try dsimp only at hw
    refine am_E.run [145, 199] 2000 (show (if (I 66 23) ≤ v2 then (am_E S 204 (d + 8) 0 0 199 [.ref 66, .int v1, .int v2] [] (N, am_ts T, I, L, am_rs r) Q) else (if v2 < 0 ∨ 400 ≤ Int32.toNatClampNeg v2 then False else (if ((v1 + 98) + (2 * v2)) < 0 ∨ 5510 ≤ Int32.toNatClampNeg ((v1 + 98) + (2 * v2)) then False else (if v2 < 0 ∨ 400 ≤ Int32.toNatClampNeg v2 then False else (if (((v1 + 98) + (2 * v2)) + 1) < 0 ∨ 5510 ≤ Int32.toNatClampNeg (((v1 + 98) + (2 * v2)) + 1) then False else (am_E S 204 (d + 8) 0 0 145 [.ref 66, .int v1, .int (v2 + 1)] [] (N, am_ts T, (am_u (am_u I 68 (Int32.toNatClampNeg ((v1 + 98) + (2 * v2))) (I 77 (Int32.toNatClampNeg v2))) 68 (Int32.toNatClampNeg (((v1 + 98) + (2 * v2)) + 1)) (I 78 (Int32.toNatClampNeg v2))), L, am_rs r) Q)))))) from ?_)
    by_cases hc : (I 66 23) ≤ v2
    · rw [if_pos hc] at hw ⊢
      exact hE0 _ _ hw
    · rw [if_neg hc] at hw ⊢
      refine am_ifn hw.1 ?_
      replace hw := hw.2
      refine am_ifn hw.1 ?_
      replace hw := hw.2
      refine am_ifn hw.1 ?_
      replace hw := hw.2
      refine am_ifn hw.1 ?_
      replace hw := hw.2
      exact ih hw hE0
def lw_204_37 : Nat → am_I → am_J → (am_I → am_J → Prop) → Prop
  | 0, _, _, _ => False
  | n + 1, I, L, E0 =>
    if (I 66 19) = 0 then
      if (f_216 59 I L) = 0 then
        E0 I L
      else
        w_207 I L (fun I29 L30 =>
          w_210 I29 L30 (fun I31 L32 =>
            lw_204_37 n I31 L32 E0))
    else
      E0 I L
set_option maxRecDepth 100000 in
theorem sl_204_37 {S : am_S} {d : Nat} {Q : am_Q} {N : Nat} {T : Nat → Nat × Nat} {r : Nat → Nat → Option Nat} {E0 : am_I → am_J → Prop} : ∀ (n : Nat) {I : am_I} {L : am_J}, lw_204_37 n I L E0 → (∀ (I1 : am_I) (L1 : am_J), E0 I1 L1 → am_E S 204 (d + 8) 0 0 64 [.ref 66, am_jk, am_jk] [] (N, am_ts T, I1, L1, am_rs r) Q) → am_E S 204 (d + 8) 0 0 37 [.ref 66, am_jk, am_jk] [] (N, am_ts T, I, L, am_rs r) Q
  | 0, _, _, hw, _ => hw.elim
  | n + 1, I, L, hw, hE0 => by
    have ih := @sl_204_37 S d Q N T r E0 n
    unfold lw_204_37 at hw
    try dsimp only at hw
    refine am_E.run [47, 64] 2000 (show (if (I 66 19) = 0 then (am_E S 204 (d + 8) 0 0 47 [.ref 66, am_jk, am_jk] [.int 59, .ref 66] (N, am_ts T, I, L, am_rs r) Q) else (am_E S 204 (d + 8) 0 0 64 [.ref 66, am_jk, am_jk] [] (N, am_ts T, I, L, am_rs r) Q)) from ?_)
    by_cases hc : (I 66 19) = 0
    · rw [if_pos hc] at hw ⊢
      refine am_E.go ⟨fun v h9 => v = some (.int (f_216 59 I L)) ∧ h9 = (N, am_ts T, I, L, am_rs r), s_216 ⟨rfl, rfl⟩, ?_⟩
      intro v h9 hv
      obtain ⟨rfl, rfl⟩ := hv
      refine am_E.run [54, 64] 2000 (show (if (f_216 59 I L) = 0 then (am_E S 204 (d + 8) 0 0 64 [.ref 66, am_jk, am_jk] [] (N, am_ts T, I, L, am_rs r) Q) else (am_E S 204 (d + 8) 0 0 54 [.ref 66, am_jk, am_jk] [.ref 66] (N, am_ts T, I, L, am_rs r) Q)) from ?_)
      by_cases hc : (f_216 59 I L) = 0
      · rw [if_pos hc] at hw ⊢
        exact hE0 _ _ hw
      · rw [if_neg hc] at hw ⊢
        refine am_E.go ⟨am_kv_IL N T r _, s_207 hw (fun I29 L30 hk => ⟨I29, L30, rfl, rfl, hk⟩), ?_⟩
        intro v h9 hv
        obtain ⟨I29, L30, rfl, rfl, hw⟩ := hv
        try dsimp only at hw
        refine am_E.run [58] 2000 (show (am_E S 204 (d + 8) 0 0 58 [.ref 66, am_jk, am_jk] [.ref 66] (N, am_ts T, I29, L30, am_rs r) Q) from ?_)
        refine am_E.go ⟨am_kv_IL N T r _, s_210 hw (fun I31 L32 hk => ⟨I31, L32, rfl, rfl, hk⟩), ?_⟩
        intro v h9 hv
        obtain ⟨I31, L32, rfl, rfl, hw⟩ := hv
        try dsimp only at hw
        refine am_E.run [37] 2000 (show (am_E S 204 (d + 8) 0 0 37 [.ref 66, am_jk, am_jk] [] (N, am_ts T, I31, L32, am_rs r) Q) from ?_)
        exact ih hw hE0
    · rw [if_neg hc] at hw ⊢
      exact hE0 _ _ hw
/-- KeyKeepersModel.law()I -/
def w_204 (I : am_I) (L : am_J) (K : Int32 → am_I → am_J → Prop) : Prop :=
  if (I 68 3) = 6 then
    w_179 (-5) (am_u (am_u I 66 0 0) 66 13 0) (fun q45 I46 =>
      K q45 I46 L)
  else
    w_205 0 (am_u I 66 0 0) L (fun I1 L2 =>
      w_210 I1 L2 (fun I3 L4 =>
        if (I3 66 19) = 0 then
          if (f_216 59 I3 L4) = 0 then
            w_230 I3 L4 (fun I15 L16 =>
              if (I15 66 19) = 0 then
                ¬ (((110 + (900 * (I15 68 3))) + 1) < 0 ∨ 5510 ≤ Int32.toNatClampNeg ((110 + (900 * (I15 68 3))) + 1)) ∧
                ∃ n110, lw_204_110 n110 (110 + (900 * (I15 68 3))) 0 (am_u I15 68 (Int32.toNatClampNeg ((110 + (900 * (I15 68 3))) + 1)) (I15 66 21)) L16 (fun o17 I18 =>
                  ∃ n145, lw_204_145 n145 (110 + (900 * (I15 68 3))) 0 I18 L16 (fun o19 I20 =>
                    w_179 (((I20 68 3) + 1) - 1) (am_u I20 68 3 ((I20 68 3) + 1)) (fun q21 I22 =>
                      K q21 I22 L16)))
              else
                w_179 (-6) I15 (fun q23 I24 =>
                  K q23 I24 L16))
          else
            w_207 I3 L4 (fun I25 L26 =>
              w_210 I25 L26 (fun I27 L28 =>
                ∃ n37, lw_204_37 n37 I27 L28 (fun I33 L34 =>
                  w_230 I33 L34 (fun I35 L36 =>
                    if (I35 66 19) = 0 then
                      ¬ (((110 + (900 * (I35 68 3))) + 1) < 0 ∨ 5510 ≤ Int32.toNatClampNeg ((110 + (900 * (I35 68 3))) + 1)) ∧
                      ∃ n110, lw_204_110 n110 (110 + (900 * (I35 68 3))) 0 (am_u I35 68 (Int32.toNatClampNeg ((110 + (900 * (I35 68 3))) + 1)) (I35 66 21)) L36 (fun o37 I38 =>
                        ∃ n145, lw_204_145 n145 (110 + (900 * (I35 68 3))) 0 I38 L36 (fun o39 I40 =>
                          w_179 (((I40 68 3) + 1) - 1) (am_u I40 68 3 ((I40 68 3) + 1)) (fun q41 I42 =>
                            K q41 I42 L36)))
                    else
                      w_179 (-6) I35 (fun q43 I44 =>
                        K q43 I44 L36)))))
        else
          w_230 I3 L4 (fun I5 L6 =>
            if (I5 66 19) = 0 then
              ¬ (((110 + (900 * (I5 68 3))) + 1) < 0 ∨ 5510 ≤ Int32.toNatClampNeg ((110 + (900 * (I5 68 3))) + 1)) ∧
              ∃ n110, lw_204_110 n110 (110 + (900 * (I5 68 3))) 0 (am_u I5 68 (Int32.toNatClampNeg ((110 + (900 * (I5 68 3))) + 1)) (I5 66 21)) L6 (fun o7 I8 =>
                ∃ n145, lw_204_145 n145 (110 + (900 * (I5 68 3))) 0 I8 L6 (fun o9 I10 =>
                  w_179 (((I10 68 3) + 1) - 1) (am_u I10 68 3 ((I10 68 3) + 1)) (fun q11 I12 =>
                    K q11 I12 L6)))
            else
              w_179 (-6) I5 (fun q13 I14 =>
                K q13 I14 L6))))
set_option maxRecDepth 100000 in
theorem s_204 {S : am_S} {d : Nat} {N : Nat} {T : Nat → Nat × Nat} {I : am_I} {L : am_J} {r : Nat → Nat → Option Nat} {Q : am_Q} {K : Int32 → am_I → am_J → Prop} (hw : w_204 I L K) (hK : ∀ (q : Int32) (I1 : am_I) (L1 : am_J), K q I1 L1 → Q (some (.int q)) (N, am_ts T, I1, L1, am_rs r)) : am_E S 204 (d + 8) 0 0 0 [.ref 66, am_jk, am_jk] [] (N, am_ts T, I, L, am_rs r) Q := by
  unfold w_204 at hw
  try dsimp only at hw
  refine am_E.run [24, 30] 2000 (show (if (I 68 3) = 6 then (am_E S 204 (d + 8) 0 0 24 [.ref 66, am_jk, am_jk] [.int (-5), .ref 66] (N, am_ts T, (am_u (am_u I 66 0 0) 66 13 0), L, am_rs r) Q) else (am_E S 204 (d + 8) 0 0 30 [.ref 66, am_jk, am_jk] [.int 0, .ref 66] (N, am_ts T, (am_u I 66 0 0), L, am_rs r) Q)) from ?_)
  by_cases hc : (I 68 3) = 6
  · rw [if_pos hc] at hw ⊢
    refine am_E.go ⟨am_ki_I N T L r _, s_179 hw (fun q45 I46 hk => ⟨q45, I46, rfl, rfl, hk⟩), ?_⟩
    intro v h9 hv
    obtain ⟨q45, I46, rfl, rfl, hw⟩ := hv
    try dsimp only at hw
    refine am_E.run [] 2000 (show (True ∧ Q (some (.int q45)) (N, am_ts T, I46, L, am_rs r)) from ?_)
    exact ⟨trivial, hK _ _ _ hw⟩
  · rw [if_neg hc] at hw ⊢
    refine am_E.go ⟨am_kv_IL N T r _, s_205 hw (fun I1 L2 hk => ⟨I1, L2, rfl, rfl, hk⟩), ?_⟩
    intro v h9 hv
    obtain ⟨I1, L2, rfl, rfl, hw⟩ := hv
    try dsimp only at hw
    refine am_E.run [34] 2000 (show (am_E S 204 (d + 8) 0 0 34 [.ref 66, am_jk, am_jk] [.ref 66] (N, am_ts T, I1, L2, am_rs r) Q) from ?_)
    refine am_E.go ⟨am_kv_IL N T r _, s_210 hw (fun I3 L4 hk => ⟨I3, L4, rfl, rfl, hk⟩), ?_⟩
    intro v h9 hv
    obtain ⟨I3, L4, rfl, rfl, hw⟩ := hv
    try dsimp only at hw
    refine am_E.run [47, 65] 2000 (show (if (I3 66 19) = 0 then (am_E S 204 (d + 8) 0 0 47 [.ref 66, am_jk, am_jk] [.int 59, .ref 66] (N, am_ts T, I3, L4, am_rs r) Q) else (am_E S 204 (d + 8) 0 0 65 [.ref 66, am_jk, am_jk] [.ref 66] (N, am_ts T, I3, L4, am_rs r) Q)) from ?_)
    by_cases hc : (I3 66 19) = 0
    · rw [if_pos hc] at hw ⊢
      refine am_E.go ⟨fun v h9 => v = some (.int (f_216 59 I3 L4)) ∧ h9 = (N, am_ts T, I3, L4, am_rs r), s_216 ⟨rfl, rfl⟩, ?_⟩
      intro v h9 hv
      obtain ⟨rfl, rfl⟩ := hv
      refine am_E.run [54, 65] 2000 (show (if (f_216 59 I3 L4) = 0 then (am_E S 204 (d + 8) 0 0 65 [.ref 66, am_jk, am_jk] [.ref 66] (N, am_ts T, I3, L4, am_rs r) Q) else (am_E S 204 (d + 8) 0 0 54 [.ref 66, am_jk, am_jk] [.ref 66] (N, am_ts T, I3, L4, am_rs r) Q)) from ?_)
      by_cases hc : (f_216 59 I3 L4) = 0
      · rw [if_pos hc] at hw ⊢
        refine am_E.go ⟨am_kv_IL N T r _, s_230 hw (fun I15 L16 hk => ⟨I15, L16, rfl, rfl, hk⟩), ?_⟩
        intro v h9 hv
        obtain ⟨I15, L16, rfl, rfl, hw⟩ := hv
        try dsimp only at hw
        refine am_E.run [78, 110] 2000 (show (if (I15 66 19) = 0 then (if ((110 + (900 * (I15 68 3))) + 1) < 0 ∨ 5510 ≤ Int32.toNatClampNeg ((110 + (900 * (I15 68 3))) + 1) then False else (am_E S 204 (d + 8) 0 0 110 [.ref 66, .int (110 + (900 * (I15 68 3))), .int 0] [] (N, am_ts T, (am_u I15 68 (Int32.toNatClampNeg ((110 + (900 * (I15 68 3))) + 1)) (I15 66 21)), L16, am_rs r) Q)) else (am_E S 204 (d + 8) 0 0 78 [.ref 66, am_jk, am_jk] [.int (-6), .ref 66] (N, am_ts T, I15, L16, am_rs r) Q)) from ?_)
        by_cases hc : (I15 66 19) = 0
        · rw [if_pos hc] at hw ⊢
          refine am_ifn hw.1 ?_
          replace hw := hw.2
          obtain ⟨n110, hw⟩ := hw
          refine sl_204_110 n110 hw (fun o17 I18 hw => ?_)
          · try dsimp only at hw
            refine am_E.run [145] 2000 (show (am_E S 204 (d + 8) 0 0 145 [.ref 66, .int (110 + (900 * (I15 68 3))), .int 0] [] (N, am_ts T, I18, L16, am_rs r) Q) from ?_)
            obtain ⟨n145, hw⟩ := hw
            refine sl_204_145 n145 hw (fun o19 I20 hw => ?_)
            · try dsimp only at hw
              refine am_E.run [218] 2000 (show (am_E S 204 (d + 8) 0 0 218 [.ref 66, .int (110 + (900 * (I15 68 3))), .int o19] [.int (((I20 68 3) + 1) - 1), .ref 66] (N, am_ts T, (am_u I20 68 3 ((I20 68 3) + 1)), L16, am_rs r) Q) from ?_)
              refine am_E.go ⟨am_ki_I N T L16 r _, s_179 hw (fun q21 I22 hk => ⟨q21, I22, rfl, rfl, hk⟩), ?_⟩
              intro v h9 hv
              obtain ⟨q21, I22, rfl, rfl, hw⟩ := hv
              try dsimp only at hw
              refine am_E.run [] 2000 (show (True ∧ Q (some (.int q21)) (N, am_ts T, I22, L16, am_rs r)) from ?_)
              exact ⟨trivial, hK _ _ _ hw⟩
        · rw [if_neg hc] at hw ⊢
          refine am_E.go ⟨am_ki_I N T L16 r _, s_179 hw (fun q23 I24 hk => ⟨q23, I24, rfl, rfl, hk⟩), ?_⟩
          intro v h9 hv
          obtain ⟨q23, I24, rfl, rfl, hw⟩ := hv
          try dsimp only at hw
          refine am_E.run [] 2000 (show (True ∧ Q (some (.int q23)) (N, am_ts T, I24, L16, am_rs r)) from ?_)
          exact ⟨trivial, hK _ _ _ hw⟩
      · rw [if_neg hc] at hw ⊢
        refine am_E.go ⟨am_kv_IL N T r _, s_207 hw (fun I25 L26 hk => ⟨I25, L26, rfl, rfl, hk⟩), ?_⟩
        intro v h9 hv
        obtain ⟨I25, L26, rfl, rfl, hw⟩ := hv
        try dsimp only at hw
        refine am_E.run [58] 2000 (show (am_E S 204 (d + 8) 0 0 58 [.ref 66, am_jk, am_jk] [.ref 66] (N, am_ts T, I25, L26, am_rs r) Q) from ?_)
        refine am_E.go ⟨am_kv_IL N T r _, s_210 hw (fun I27 L28 hk => ⟨I27, L28, rfl, rfl, hk⟩), ?_⟩
        intro v h9 hv
        obtain ⟨I27, L28, rfl, rfl, hw⟩ := hv
        try dsimp only at hw
        refine am_E.run [37] 2000 (show (am_E S 204 (d + 8) 0 0 37 [.ref 66, am_jk, am_jk] [] (N, am_ts T, I27, L28, am_rs r) Q) from ?_)
        obtain ⟨n37, hw⟩ := hw
        refine sl_204_37 n37 hw (fun I33 L34 hw => ?_)
        · try dsimp only at hw
          refine am_E.run [65] 2000 (show (am_E S 204 (d + 8) 0 0 65 [.ref 66, am_jk, am_jk] [.ref 66] (N, am_ts T, I33, L34, am_rs r) Q) from ?_)
          refine am_E.go ⟨am_kv_IL N T r _, s_230 hw (fun I35 L36 hk => ⟨I35, L36, rfl, rfl, hk⟩), ?_⟩
          intro v h9 hv
          obtain ⟨I35, L36, rfl, rfl, hw⟩ := hv
          try dsimp only at hw
          refine am_E.run [78, 110] 2000 (show (if (I35 66 19) = 0 then (if ((110 + (900 * (I35 68 3))) + 1) < 0 ∨ 5510 ≤ Int32.toNatClampNeg ((110 + (900 * (I35 68 3))) + 1) then False else (am_E S 204 (d + 8) 0 0 110 [.ref 66, .int (110 + (900 * (I35 68 3))), .int 0] [] (N, am_ts T, (am_u I35 68 (Int32.toNatClampNeg ((110 + (900 * (I35 68 3))) + 1)) (I35 66 21)), L36, am_rs r) Q)) else (am_E S 204 (d + 8) 0 0 78 [.ref 66, am_jk, am_jk] [.int (-6), .ref 66] (N, am_ts T, I35, L36, am_rs r) Q)) from ?_)
          by_cases hc : (I35 66 19) = 0
          · rw [if_pos hc] at hw ⊢
            refine am_ifn hw.1 ?_
            replace hw := hw.2
            obtain ⟨n110, hw⟩ := hw
            refine sl_204_110 n110 hw (fun o37 I38 hw => ?_)
            · try dsimp only at hw
              refine am_E.run [145] 2000 (show (am_E S 204 (d + 8) 0 0 145 [.ref 66, .int (110 + (900 * (I35 68 3))), .int 0] [] (N, am_ts T, I38, L36, am_rs r) Q) from ?_)
              obtain ⟨n145, hw⟩ := hw
              refine sl_204_145 n145 hw (fun o39 I40 hw => ?_)
              · try dsimp only at hw
                refine am_E.run [218] 2000 (show (am_E S 204 (d + 8) 0 0 218 [.ref 66, .int (110 + (900 * (I35 68 3))), .int o39] [.int (((I40 68 3) + 1) - 1), .ref 66] (N, am_ts T, (am_u I40 68 3 ((I40 68 3) + 1)), L36, am_rs r) Q) from ?_)
                refine am_E.go ⟨am_ki_I N T L36 r _, s_179 hw (fun q41 I42 hk => ⟨q41, I42, rfl, rfl, hk⟩), ?_⟩
                intro v h9 hv
                obtain ⟨q41, I42, rfl, rfl, hw⟩ := hv
                try dsimp only at hw
                refine am_E.run [] 2000 (show (True ∧ Q (some (.int q41)) (N, am_ts T, I42, L36, am_rs r)) from ?_)
                exact ⟨trivial, hK _ _ _ hw⟩
          · rw [if_neg hc] at hw ⊢
            refine am_E.go ⟨am_ki_I N T L36 r _, s_179 hw (fun q43 I44 hk => ⟨q43, I44, rfl, rfl, hk⟩), ?_⟩
            intro v h9 hv
            obtain ⟨q43, I44, rfl, rfl, hw⟩ := hv
            try dsimp only at hw
            refine am_E.run [] 2000 (show (True ∧ Q (some (.int q43)) (N, am_ts T, I44, L36, am_rs r)) from ?_)
            exact ⟨trivial, hK _ _ _ hw⟩
    · rw [if_neg hc] at hw ⊢
      refine am_E.go ⟨am_kv_IL N T r _, s_230 hw (fun I5 L6 hk => ⟨I5, L6, rfl, rfl, hk⟩), ?_⟩
      intro v h9 hv
      obtain ⟨I5, L6, rfl, rfl, hw⟩ := hv
      try dsimp only at hw
      refine am_E.run [78, 110] 2000 (show (if (I5 66 19) = 0 then (if ((110 + (900 * (I5 68 3))) + 1) < 0 ∨ 5510 ≤ Int32.toNatClampNeg ((110 + (900 * (I5 68 3))) + 1) then False else (am_E S 204 (d + 8) 0 0 110 [.ref 66, .int (110 + (900 * (I5 68 3))), .int 0] [] (N, am_ts T, (am_u I5 68 (Int32.toNatClampNeg ((110 + (900 * (I5 68 3))) + 1)) (I5 66 21)), L6, am_rs r) Q)) else (am_E S 204 (d + 8) 0 0 78 [.ref 66, am_jk, am_jk] [.int (-6), .ref 66] (N, am_ts T, I5, L6, am_rs r) Q)) from ?_)
      by_cases hc : (I5 66 19) = 0
      · rw [if_pos hc] at hw ⊢
        refine am_ifn hw.1 ?_
        replace hw := hw.2
        obtain ⟨n110, hw⟩ := hw
        refine sl_204_110 n110 hw (fun o7 I8 hw => ?_)
        · try dsimp only at hw
          refine am_E.run [145] 2000 (show (am_E S 204 (d + 8) 0 0 145 [.ref 66, .int (110 + (900 * (I5 68 3))), .int 0] [] (N, am_ts T, I8, L6, am_rs r) Q) from ?_)
          obtain ⟨n145, hw⟩ := hw
          refine sl_204_145 n145 hw (fun o9 I10 hw => ?_)
          · try dsimp only at hw
            refine am_E.run [218] 2000 (show (am_E S 204 (d + 8) 0 0 218 [.ref 66, .int (110 + (900 * (I5 68 3))), .int o9] [.int (((I10 68 3) + 1) - 1), .ref 66] (N, am_ts T, (am_u I10 68 3 ((I10 68 3) + 1)), L6, am_rs r) Q) from ?_)
            refine am_E.go ⟨am_ki_I N T L6 r _, s_179 hw (fun q11 I12 hk => ⟨q11, I12, rfl, rfl, hk⟩), ?_⟩
            intro v h9 hv
            obtain ⟨q11, I12, rfl, rfl, hw⟩ := hv
            try dsimp only at hw
            refine am_E.run [] 2000 (show (True ∧ Q (some (.int q11)) (N, am_ts T, I12, L6, am_rs r)) from ?_)
            exact ⟨trivial, hK _ _ _ hw⟩
      · rw [if_neg hc] at hw ⊢
        refine am_E.go ⟨am_ki_I N T L6 r _, s_179 hw (fun q13 I14 hk => ⟨q13, I14, rfl, rfl, hk⟩), ?_⟩
        intro v h9 hv
        obtain ⟨q13, I14, rfl, rfl, hw⟩ := hv
        try dsimp only at hw
        refine am_E.run [] 2000 (show (True ∧ Q (some (.int q13)) (N, am_ts T, I14, L6, am_rs r)) from ?_)
        exact ⟨trivial, hK _ _ _ hw⟩
/-- KeyKeepersModel.rota(I)I -/
def w_271 (x0 : Int32) (I : am_I) (L : am_J) (K : Int32 → am_I → am_J → Prop) : Prop :=
  if (f_182 (Int32.toInt64 x0) 0 7) = 0 then
    K (-1) (am_u I 66 0 0) L
  else
    w_272 (am_u I 66 0 0) L (fun I1 L2 =>
      if x0 = 1 then
        if x0 = 1 then
          K (I1 66 46) I1 L2
        else
          K (-1) I1 L2
      else
        if (I1 66 46) = 0 then
          if x0 = 1 then
            K (I1 66 46) I1 L2
          else
            K (-1) I1 L2
        else
          if x0 = 0 then
            K (I1 66 47) I1 L2
          else
            ¬ ((x0 - 2) < 0 ∨ 6 ≤ Int32.toNatClampNeg (x0 - 2)) ∧
            K (I1 90 (Int32.toNatClampNeg (x0 - 2))) I1 L2)
set_option maxRecDepth 100000 in
theorem s_271 {S : am_S} {d : Nat} {N : Nat} {T : Nat → Nat × Nat} {I : am_I} {L : am_J} {r : Nat → Nat → Option Nat} {Q : am_Q} {x0 : Int32} {K : Int32 → am_I → am_J → Prop} (hw : w_271 x0 I L K) (hK : ∀ (q : Int32) (I1 : am_I) (L1 : am_J), K q I1 L1 → Q (some (.int q)) (N, am_ts T, I1, L1, am_rs r)) : am_E S 271 (d + 8) 0 0 0 [.ref 66, .int x0] [] (N, am_ts T, I, L, am_rs r) Q := by
  unfold w_271 at hw
  try dsimp only at hw
  refine am_E.run [11] 2000 (show (am_E S 271 (d + 8) 0 0 11 [.ref 66, .int x0] [.long 7, .long 0, .long (Int32.toInt64 x0)] (N, am_ts T, (am_u I 66 0 0), L, am_rs r) Q) from ?_)
  refine am_E.go ⟨fun v h9 => v = some (.int (f_182 (Int32.toInt64 x0) 0 7)) ∧ h9 = (N, am_ts T, (am_u I 66 0 0), L, am_rs r), s_182 ⟨rfl, rfl⟩, ?_⟩
  intro v h9 hv
  obtain ⟨rfl, rfl⟩ := hv
  refine am_E.run [20] 2000 (show (if (f_182 (Int32.toInt64 x0) 0 7) = 0 then (True ∧ Q (some (.int (-1))) (N, am_ts T, (am_u I 66 0 0), L, am_rs r)) else (am_E S 271 (d + 8) 0 0 20 [.ref 66, .int x0] [.ref 66] (N, am_ts T, (am_u I 66 0 0), L, am_rs r) Q)) from ?_)
  by_cases hc : (f_182 (Int32.toInt64 x0) 0 7) = 0
  · rw [if_pos hc] at hw ⊢
    exact ⟨trivial, hK _ _ _ hw⟩
  · rw [if_neg hc] at hw ⊢
    refine am_E.go ⟨am_kv_IL N T r _, s_272 hw (fun I1 L2 hk => ⟨I1, L2, rfl, rfl, hk⟩), ?_⟩
    intro v h9 hv
    obtain ⟨I1, L2, rfl, rfl, hw⟩ := hv
    try dsimp only at hw
    refine am_E.run [] 2000 (show (if x0 = 1 then (if x0 = 1 then (True ∧ Q (some (.int (I1 66 46))) (N, am_ts T, I1, L2, am_rs r)) else (True ∧ Q (some (.int (-1))) (N, am_ts T, I1, L2, am_rs r))) else (if (I1 66 46) = 0 then (if x0 = 1 then (True ∧ Q (some (.int (I1 66 46))) (N, am_ts T, I1, L2, am_rs r)) else (True ∧ Q (some (.int (-1))) (N, am_ts T, I1, L2, am_rs r))) else (if x0 = 0 then (True ∧ Q (some (.int (I1 66 47))) (N, am_ts T, I1, L2, am_rs r)) else (if (x0 - 2) < 0 ∨ 6 ≤ Int32.toNatClampNeg (x0 - 2) then False else (True ∧ Q (some (.int (I1 90 (Int32.toNatClampNeg (x0 - 2))))) (N, am_ts T, I1, L2, am_rs r)))))) from ?_)
    by_cases hc : x0 = 1
    · rw [if_pos hc] at hw ⊢
      by_cases hc : x0 = 1
      · rw [if_pos hc] at hw ⊢
        exact ⟨trivial, hK _ _ _ hw⟩
      · rw [if_neg hc] at hw ⊢
        exact ⟨trivial, hK _ _ _ hw⟩
    · rw [if_neg hc] at hw ⊢
      by_cases hc : (I1 66 46) = 0
      · rw [if_pos hc] at hw ⊢
        by_cases hc : x0 = 1
        · rw [if_pos hc] at hw ⊢
          exact ⟨trivial, hK _ _ _ hw⟩
        · rw [if_neg hc] at hw ⊢
          exact ⟨trivial, hK _ _ _ hw⟩
      · rw [if_neg hc] at hw ⊢
        by_cases hc : x0 = 0
        · rw [if_pos hc] at hw ⊢
          exact ⟨trivial, hK _ _ _ hw⟩
        · rw [if_neg hc] at hw ⊢
          refine am_ifn hw.1 ?_
          replace hw := hw.2
          exact ⟨trivial, hK _ _ _ hw⟩
def lw_291_77 : Nat → Int32 → Int32 → am_I → am_J → (Int32 → am_I → Prop) → Prop
  | 0, _, _, _, _, _ => False
  | n + 1, v1, v2, I, L, E0 =>
    if (336 : Int32) ≤ v2 then
      E0 v2 I
    else
      ¬ (v2 < 0 ∨ 378 ≤ Int32.toNatClampNeg v2) ∧
      ¬ (v2 < 0 ∨ 336 ≤ Int32.toNatClampNeg v2) ∧
      lw_291_77 n v1 (v2 + 1) (am_u I 73 (Int32.toNatClampNeg v2) (I 71 (Int32.toNatClampNeg v2))) L E0
set_option maxHeartbeats 6000000 in
set_option maxRecDepth 100000 in
theorem sl_291_77 {S : am_S} {d : Nat} {Q : am_Q} {N : Nat} {T : Nat → Nat × Nat} {L : am_J} {r : Nat → Nat → Option Nat} {E0 : Int32 → am_I → Prop} : ∀ (n : Nat) {v1 : Int32} {v2 : Int32} {I : am_I}, lw_291_77 n v1 v2 I L E0 → (∀ (o2 : Int32) (I1 : am_I), E0 o2 I1 → am_E S 291 (d + 10) 0 0 102 [.ref 66, .int v1, .int o2, am_jk] [] (N, am_ts T, I1, L, am_rs r) Q) → am_E S 291 (d + 10) 0 0 77 [.ref 66, .int v1, .int v2, am_jk] [] (N, am_ts T, I, L, am_rs r) Q
  | 0, _, _, _, hw, _ => hw.elim
  | n + 1, v1, v2, I, hw, hE0 => by
    have ih := @sl_291_77 S d Q N T L r E0 n
    unfold lw_291_77 at hw
    try dsimp only at hw
    refine am_E.run [77, 102] 2000 (show (if (336 : Int32) ≤ v2 then (am_E S 291 (d + 10) 0 0 102 [.ref 66, .int v1, .int v2, am_jk] [] (N, am_ts T, I, L, am_rs r) Q) else (if v2 < 0 ∨ 378 ≤ Int32.toNatClampNeg v2 then False else (if v2 < 0 ∨ 336 ≤ Int32.toNatClampNeg v2 then False else (am_E S 291 (d + 10) 0 0 77 [.ref 66, .int v1, .int (v2 + 1), am_jk] [] (N, am_ts T, (am_u I 73 (Int32.toNatClampNeg v2) (I 71 (Int32.toNatClampNeg v2))), L, am_rs r) Q)))) from ?_)
    by_cases hc : (336 : Int32) ≤ v2
    · rw [if_pos hc] at hw ⊢
      exact hE0 _ _ hw
    · rw [if_neg hc] at hw ⊢
      refine am_ifn hw.1 ?_
      replace hw := hw.2
      refine am_ifn hw.1 ?_
      replace hw := hw.2
      exact ih hw hE0
def lw_291_104 : Nat → Int32 → Int32 → am_I → am_J → (Int32 → am_I → Prop) → Prop
  | 0, _, _, _, _, _ => False
  | n + 1, v1, v2, I, L, E0 =>
    if (16 : Int32) ≤ v2 then
      E0 v2 I
    else
      ¬ (v2 < 0 ∨ 16 ≤ Int32.toNatClampNeg v2) ∧
      ¬ (v2 < 0 ∨ 16 ≤ Int32.toNatClampNeg v2) ∧
      lw_291_104 n v1 (v2 + 1) (am_u I 74 (Int32.toNatClampNeg v2) (I 72 (Int32.toNatClampNeg v2))) L E0
set_option maxHeartbeats 6000000 in
set_option maxRecDepth 100000 in
theorem sl_291_104 {S : am_S} {d : Nat} {Q : am_Q} {N : Nat} {T : Nat → Nat × Nat} {L : am_J} {r : Nat → Nat → Option Nat} {E0 : Int32 → am_I → Prop} : ∀ (n : Nat) {v1 : Int32} {v2 : Int32} {I : am_I}, lw_291_104 n v1 v2 I L E0 → (∀ (o2 : Int32) (I1 : am_I), E0 o2 I1 → am_E S 291 (d + 10) 0 0 128 [.ref 66, .int v1, .int o2, am_jk] [] (N, am_ts T, I1, L, am_rs r) Q) → am_E S 291 (d + 10) 0 0 104 [.ref 66, .int v1, .int v2, am_jk] [] (N, am_ts T, I, L, am_rs r) Q
  | 0, _, _, _, hw, _ => hw.elim
  | n + 1, v1, v2, I, hw, hE0 => by
    have ih := @sl_291_104 S d Q N T L r E0 n
    unfold lw_291_104 at hw
    try dsimp only at hw
    refine am_E.run [104, 128] 2000 (show (if (16 : Int32) ≤ v2 then (am_E S 291 (d + 10) 0 0 128 [.ref 66, .int v1, .int v2, am_jk] [] (N, am_ts T, I, L, am_rs r) Q) else (if v2 < 0 ∨ 16 ≤ Int32.toNatClampNeg v2 then False else (if v2 < 0 ∨ 16 ≤ Int32.toNatClampNeg v2 then False else (am_E S 291 (d + 10) 0 0 104 [.ref 66, .int v1, .int (v2 + 1), am_jk] [] (N, am_ts T, (am_u I 74 (Int32.toNatClampNeg v2) (I 72 (Int32.toNatClampNeg v2))), L, am_rs r) Q)))) from ?_)
    by_cases hc : (16 : Int32) ≤ v2
    · rw [if_pos hc] at hw ⊢
      exact hE0 _ _ hw
    · rw [if_neg hc] at hw ⊢
      refine am_ifn hw.1 ?_
      replace hw := hw.2
      refine am_ifn hw.1 ?_
      replace hw := hw.2
      exact ih hw hE0
def lw_291_150 : Nat → Int32 → Int32 → Int32 → am_I → am_J → (Int32 → am_I → am_J → Prop) → (Int32 → am_I → am_J → Prop) → Prop
  | 0, _, _, _, _, _, _, _ => False
  | n + 1, v1, v2, v3, I, L, E0, R =>
    ¬ (((10 * v2) + 9) < 0 ∨ 120 ≤ Int32.toNatClampNeg ((10 * v2) + 9)) ∧
    if (I 97 (Int32.toNatClampNeg ((10 * v2) + 9))) ≤ v3 then
      E0 v3 I L
    else
      w_295 (10 * v2) I L (fun q12 I13 L14 =>
        if (0 : Int32) ≤ q12 then
          lw_291_150 n v1 v2 (v3 + 1) I13 L14 E0 R
        else
          w_297 v1 I13 (fun I15 =>
            w_179 (-3) (am_u I15 66 56 v2) (fun q16 I17 =>
              R q16 I17 L14)))
set_option maxHeartbeats 6000000 in
set_option maxRecDepth 100000 in
theorem sl_291_150 {S : am_S} {d : Nat} {Q : am_Q} {N : Nat} {T : Nat → Nat × Nat} {r : Nat → Nat → Option Nat} {E0 : Int32 → am_I → am_J → Prop} {R : Int32 → am_I → am_J → Prop} : ∀ (n : Nat) {v1 : Int32} {v2 : Int32} {v3 : Int32} {I : am_I} {L : am_J}, lw_291_150 n v1 v2 v3 I L E0 R → (∀ (o3 : Int32) (I1 : am_I) (L1 : am_J), E0 o3 I1 L1 → am_E S 291 (d + 10) 0 0 200 [.ref 66, .int v1, .int v2, .int o3] [] (N, am_ts T, I1, L1, am_rs r) Q) → (∀ (q : Int32) (I1 : am_I) (L1 : am_J), R q I1 L1 → Q (some (.int q)) (N, am_ts T, I1, L1, am_rs r)) → am_E S 291 (d + 10) 0 0 150 [.ref 66, .int v1, .int v2, .int v3] [] (N, am_ts T, I, L, am_rs r) Q
  | 0, _, _, _, _, _, hw, _, _ => hw.elim
  | n + 1, v1, v2, v3, I, L, hw, hE0, hR => by
    have ih := @sl_291_150 S d Q N T r E0 R n
    unfold lw_291_150 at hw
    try dsimp only at hw
    refine am_E.run [171, 200] 2000 (show (if ((10 * v2) + 9) < 0 ∨ 120 ≤ Int32.toNatClampNeg ((10 * v2) + 9) then False else (if (I 97 (Int32.toNatClampNeg ((10 * v2) + 9))) ≤ v3 then (am_E S 291 (d + 10) 0 0 200 [.ref 66, .int v1, .int v2, .int v3] [] (N, am_ts T, I, L, am_rs r) Q) else (am_E S 291 (d + 10) 0 0 171 [.ref 66, .int v1, .int v2, .int v3] [.int (10 * v2), .ref 66] (N, am_ts T, I, L, am_rs r) Q))) from ?_)
    refine am_ifn hw.1 ?_
    replace hw := hw.2
    by_cases hc : (I 97 (Int32.toNatClampNeg ((10 * v2) + 9))) ≤ v3
    · rw [if_pos hc] at hw ⊢
      exact hE0 _ _ _ hw
    · rw [if_neg hc] at hw ⊢
      refine am_E.go ⟨am_ki_IL N T r _, s_295 hw (fun q12 I13 L14 hk => ⟨q12, I13, L14, rfl, rfl, hk⟩), ?_⟩
      intro v h9 hv
      obtain ⟨q12, I13, L14, rfl, rfl, hw⟩ := hv
      try dsimp only at hw
      refine am_E.run [150, 179] 2000 (show (if (0 : Int32) ≤ q12 then (am_E S 291 (d + 10) 0 0 150 [.ref 66, .int v1, .int v2, .int (v3 + 1)] [] (N, am_ts T, I13, L14, am_rs r) Q) else (am_E S 291 (d + 10) 0 0 179 [.ref 66, .int v1, .int v2, .int v3] [.int v1, .ref 66] (N, am_ts T, I13, L14, am_rs r) Q)) from ?_)
      by_cases hc : (0 : Int32) ≤ q12
      · rw [if_pos hc] at hw ⊢
        exact ih hw hE0 hR
      · rw [if_neg hc] at hw ⊢
        refine am_E.go ⟨am_kv_I N T L14 r _, s_297 hw (fun I15 hk => ⟨I15, rfl, rfl, hk⟩), ?_⟩
        intro v h9 hv
        obtain ⟨I15, rfl, rfl, hw⟩ := hv
        try dsimp only at hw
        refine am_E.run [190] 2000 (show (am_E S 291 (d + 10) 0 0 190 [.ref 66, .int v1, .int v2, .int v3] [.int (-3), .ref 66] (N, am_ts T, (am_u I15 66 56 v2), L14, am_rs r) Q) from ?_)
        refine am_E.go ⟨am_ki_I N T L14 r _, s_179 hw (fun q16 I17 hk => ⟨q16, I17, rfl, rfl, hk⟩), ?_⟩
        intro v h9 hv
        obtain ⟨q16, I17, rfl, rfl, hw⟩ := hv
        try dsimp only at hw
        refine am_E.run [] 2000 (show (True ∧ Q (some (.int q16)) (N, am_ts T, I17, L14, am_rs r)) from ?_)
        exact ⟨trivial, hR _ _ _ hw⟩
def lw_291_140 : Nat → Int32 → Int32 → am_I → am_J → (Int32 → am_I → am_J → Prop) → (Int32 → am_I → am_J → Prop) → Prop
  | 0, _, _, _, _, _, _ => False
  | n + 1, v1, v2, I, L, E0, R =>
    if (I 66 21) ≤ v2 then
      E0 v2 I L
    else
      ∃ n150, lw_291_150 n150 v1 v2 0 I L (fun o18 I19 L20 =>
        lw_291_140 n v1 (v2 + 1) I19 L20 E0 R) R
set_option maxHeartbeats 6000000 in
set_option maxRecDepth 100000 in
theorem sl_291_140 {S : am_S} {d : Nat} {Q : am_Q} {N : Nat} {T : Nat → Nat × Nat} {r : Nat → Nat → Option Nat} {E0 : Int32 → am_I → am_J → Prop} {R : Int32 → am_I → am_J → Prop} : ∀ (n : Nat) {v1 : Int32} {v2 : Int32} {I : am_I} {L : am_J}, lw_291_140 n v1 v2 I L E0 R → (∀ (o2 : Int32) (I1 : am_I) (L1 : am_J), E0 o2 I1 L1 → am_E S 291 (d + 10) 0 0 206 [.ref 66, .int v1, .int o2, am_jk] [] (N, am_ts T, I1, L1, am_rs r) Q) → (∀ (q : Int32) (I1 : am_I) (L1 : am_J), R q I1 L1 → Q (some (.int q)) (N, am_ts T, I1, L1, am_rs r)) → am_E S 291 (d + 10) 0 0 140 [.ref 66, .int v1, .int v2, am_jk] [] (N, am_ts T, I, L, am_rs r) Q
  | 0, _, _, _, _, hw, _, _ => hw.elim
  | n + 1, v1, v2, I, L, hw, hE0, hR => by
    have ih := @sl_291_140 S d Q N T r E0 R n
    unfold lw_291_140 at hw
    try dsimp only at hw
    refine am_E.run [150, 206] 2000 (show (if (I 66 21) ≤ v2 then (am_E S 291 (d + 10) 0 0 206 [.ref 66, .int v1, .int v2, am_jk] [] (N, am_ts T, I, L, am_rs r) Q) else (am_E S 291 (d + 10) 0 0 150 [.ref 66, .int v1, .int v2, .int 0] [] (N, am_ts T, I, L, am_rs r) Q)) from ?_)
    by_cases hc : (I 66 21) ≤ v2
    · rw [if_pos hc] at hw ⊢
      exact hE0 _ _ _ hw
    · rw [if_neg hc] at hw ⊢
      obtain ⟨n150, hw⟩ := hw
      refine sl_291_150 n150 hw (fun o18 I19 L20 hw => ?_) hR
      · try dsimp only at hw
        refine am_E.run [140] 2000 (show (am_E S 291 (d + 10) 0 0 140 [.ref 66, .int v1, .int (v2 + 1), .int o18] [] (N, am_ts T, I19, L20, am_rs r) Q) from ?_)
        exact am_E.junk (ih hw hE0 hR) (am_le.cons (am_le.cons (am_le.cons (am_le.jk am_le.nil))))
def wb_291_46 (I : am_I) (L : am_J) (K : Int32 → am_I → am_J → Prop) : Prop :=
  w_230 I L (fun I5 L6 =>
    if (I5 66 19) = 0 then
      w_256 17 I5 (fun I7 =>
        ∃ n77, lw_291_77 n77 (I7 66 8) 0 I7 L6 (fun o8 I9 =>
          ∃ n104, lw_291_104 n104 (I7 66 8) 0 I9 L6 (fun o10 I11 =>
            ∃ n140, lw_291_140 n140 (I7 66 8) 0 (am_u (am_u I11 66 54 0) 66 55 (-1)) L6 (fun o21 I22 L23 =>
              w_179 (I22 66 54) I22 (fun q24 I25 =>
                K q24 I25 L23)) K)))
    else
      w_179 (-6) I5 (fun q26 I27 =>
        K q26 I27 L6))
set_option maxHeartbeats 6000000 in
set_option maxRecDepth 100000 in
theorem sb_291_46 {S : am_S} {d : Nat} {N : Nat} {T : Nat → Nat × Nat} {I : am_I} {L : am_J} {r : Nat → Nat → Option Nat} {Q : am_Q} {K : Int32 → am_I → am_J → Prop} (hw : wb_291_46 I L K) (hK : ∀ (q : Int32) (I1 : am_I) (L1 : am_J), K q I1 L1 → Q (some (.int q)) (N, am_ts T, I1, L1, am_rs r)) : am_E S 291 (d + 10) 0 0 46 [.ref 66, am_jk, am_jk, am_jk] [] (N, am_ts T, I, L, am_rs r) Q := by
  unfold wb_291_46 at hw
  try dsimp only at hw
  refine am_E.run [47] 2000 (show (am_E S 291 (d + 10) 0 0 47 [.ref 66, am_jk, am_jk, am_jk] [.ref 66] (N, am_ts T, I, L, am_rs r) Q) from ?_)
  refine am_E.go ⟨am_kv_IL N T r _, s_230 hw (fun I5 L6 hk => ⟨I5, L6, rfl, rfl, hk⟩), ?_⟩
  intro v h9 hv
  obtain ⟨I5, L6, rfl, rfl, hw⟩ := hv
  try dsimp only at hw
  refine am_E.run [60, 67] 2000 (show (if (I5 66 19) = 0 then (am_E S 291 (d + 10) 0 0 67 [.ref 66, am_jk, am_jk, am_jk] [.int 17, .ref 66] (N, am_ts T, I5, L6, am_rs r) Q) else (am_E S 291 (d + 10) 0 0 60 [.ref 66, am_jk, am_jk, am_jk] [.int (-6), .ref 66] (N, am_ts T, I5, L6, am_rs r) Q)) from ?_)
  by_cases hc : (I5 66 19) = 0
  · rw [if_pos hc] at hw ⊢
    refine am_E.go ⟨am_kv_I N T L6 r _, s_256 hw (fun I7 hk => ⟨I7, rfl, rfl, hk⟩), ?_⟩
    intro v h9 hv
    obtain ⟨I7, rfl, rfl, hw⟩ := hv
    try dsimp only at hw
    refine am_E.run [77] 2000 (show (am_E S 291 (d + 10) 0 0 77 [.ref 66, .int (I7 66 8), .int 0, am_jk] [] (N, am_ts T, I7, L6, am_rs r) Q) from ?_)
    obtain ⟨n77, hw⟩ := hw
    refine sl_291_77 n77 hw (fun o8 I9 hw => ?_)
    · try dsimp only at hw
      refine am_E.run [104] 2000 (show (am_E S 291 (d + 10) 0 0 104 [.ref 66, .int (I7 66 8), .int 0, am_jk] [] (N, am_ts T, I9, L6, am_rs r) Q) from ?_)
      obtain ⟨n104, hw⟩ := hw
      refine sl_291_104 n104 hw (fun o10 I11 hw => ?_)
      · try dsimp only at hw
        refine am_E.run [140] 2000 (show (am_E S 291 (d + 10) 0 0 140 [.ref 66, .int (I7 66 8), .int 0, am_jk] [] (N, am_ts T, (am_u (am_u I11 66 54 0) 66 55 (-1)), L6, am_rs r) Q) from ?_)
        obtain ⟨n140, hw⟩ := hw
        refine sl_291_140 n140 hw (fun o21 I22 L23 hw => ?_) hK
        · try dsimp only at hw
          refine am_E.run [211] 2000 (show (am_E S 291 (d + 10) 0 0 211 [.ref 66, .int (I7 66 8), .int o21, am_jk] [.int (I22 66 54), .ref 66] (N, am_ts T, I22, L23, am_rs r) Q) from ?_)
          refine am_E.go ⟨am_ki_I N T L23 r _, s_179 hw (fun q24 I25 hk => ⟨q24, I25, rfl, rfl, hk⟩), ?_⟩
          intro v h9 hv
          obtain ⟨q24, I25, rfl, rfl, hw⟩ := hv
          try dsimp only at hw
          refine am_E.run [] 2000 (show (True ∧ Q (some (.int q24)) (N, am_ts T, I25, L23, am_rs r)) from ?_)
          exact ⟨trivial, hK _ _ _ hw⟩
  · rw [if_neg hc] at hw ⊢
    refine am_E.go ⟨am_ki_I N T L6 r _, s_179 hw (fun q26 I27 hk => ⟨q26, I27, rfl, rfl, hk⟩), ?_⟩
    intro v h9 hv
    obtain ⟨q26, I27, rfl, rfl, hw⟩ := hv
    try dsimp only at hw
    refine am_E.run [] 2000 (show (True ∧ Q (some (.int q26)) (N, am_ts T, I27, L6, am_rs r)) from ?_)
    exact ⟨trivial, hK _ _ _ hw⟩
def lw_291_19 : Nat → am_I → am_J → (am_I → am_J → Prop) → Prop
  | 0, _, _, _ => False
  | n + 1, I, L, E0 =>
    if (I 66 19) = 0 then
      if (f_216 59 I L) = 0 then
        E0 I L
      else
        w_207 I L (fun I32 L33 =>
          w_292 I32 L33 (fun I34 L35 =>
            lw_291_19 n I34 L35 E0))
    else
      E0 I L
set_option maxHeartbeats 6000000 in
set_option maxRecDepth 100000 in
theorem sl_291_19 {S : am_S} {d : Nat} {Q : am_Q} {N : Nat} {T : Nat → Nat × Nat} {r : Nat → Nat → Option Nat} {E0 : am_I → am_J → Prop} : ∀ (n : Nat) {I : am_I} {L : am_J}, lw_291_19 n I L E0 → (∀ (I1 : am_I) (L1 : am_J), E0 I1 L1 → am_E S 291 (d + 10) 0 0 46 [.ref 66, am_jk, am_jk, am_jk] [] (N, am_ts T, I1, L1, am_rs r) Q) → am_E S 291 (d + 10) 0 0 19 [.ref 66, am_jk, am_jk, am_jk] [] (N, am_ts T, I, L, am_rs r) Q
  | 0, _, _, hw, _ => hw.elim
  | n + 1, I, L, hw, hE0 => by
    have ih := @sl_291_19 S d Q N T r E0 n
    unfold lw_291_19 at hw
    try dsimp only at hw
    refine am_E.run [29, 46] 2000 (show (if (I 66 19) = 0 then (am_E S 291 (d + 10) 0 0 29 [.ref 66, am_jk, am_jk, am_jk] [.int 59, .ref 66] (N, am_ts T, I, L, am_rs r) Q) else (am_E S 291 (d + 10) 0 0 46 [.ref 66, am_jk, am_jk, am_jk] [] (N, am_ts T, I, L, am_rs r) Q)) from ?_)
    by_cases hc : (I 66 19) = 0
    · rw [if_pos hc] at hw ⊢
      refine am_E.go ⟨fun v h9 => v = some (.int (f_216 59 I L)) ∧ h9 = (N, am_ts T, I, L, am_rs r), s_216 ⟨rfl, rfl⟩, ?_⟩
      intro v h9 hv
      obtain ⟨rfl, rfl⟩ := hv
      refine am_E.run [36, 46] 2000 (show (if (f_216 59 I L) = 0 then (am_E S 291 (d + 10) 0 0 46 [.ref 66, am_jk, am_jk, am_jk] [] (N, am_ts T, I, L, am_rs r) Q) else (am_E S 291 (d + 10) 0 0 36 [.ref 66, am_jk, am_jk, am_jk] [.ref 66] (N, am_ts T, I, L, am_rs r) Q)) from ?_)
      by_cases hc : (f_216 59 I L) = 0
      · rw [if_pos hc] at hw ⊢
        exact hE0 _ _ hw
      · rw [if_neg hc] at hw ⊢
        refine am_E.go ⟨am_kv_IL N T r _, s_207 hw (fun I32 L33 hk => ⟨I32, L33, rfl, rfl, hk⟩), ?_⟩
        intro v h9 hv
        obtain ⟨I32, L33, rfl, rfl, hw⟩ := hv
        try dsimp only at hw
        refine am_E.run [40] 2000 (show (am_E S 291 (d + 10) 0 0 40 [.ref 66, am_jk, am_jk, am_jk] [.ref 66] (N, am_ts T, I32, L33, am_rs r) Q) from ?_)
        refine am_E.go ⟨am_kv_IL N T r _, s_292 hw (fun I34 L35 hk => ⟨I34, L35, rfl, rfl, hk⟩), ?_⟩
        intro v h9 hv
        obtain ⟨I34, L35, rfl, rfl, hw⟩ := hv
        try dsimp only at hw
        refine am_E.run [19] 2000 (show (am_E S 291 (d + 10) 0 0 19 [.ref 66, am_jk, am_jk, am_jk] [] (N, am_ts T, I34, L35, am_rs r) Q) from ?_)
        exact ih hw hE0
    · rw [if_neg hc] at hw ⊢
      exact hE0 _ _ hw
/-- KeyKeepersModel.orders()I -/
def w_291 (I : am_I) (L : am_J) (K : Int32 → am_I → am_J → Prop) : Prop :=
  w_205 1 (am_u (am_u I 66 0 0) 66 56 (-1)) L (fun I1 L2 =>
    w_292 I1 L2 (fun I3 L4 =>
      if (I3 66 19) = 0 then
        if (f_216 59 I3 L4) = 0 then
          wb_291_46 I3 L4 K
        else
          w_207 I3 L4 (fun I28 L29 =>
            w_292 I28 L29 (fun I30 L31 =>
              ∃ n19, lw_291_19 n19 I30 L31 (fun I36 L37 =>
                wb_291_46 I36 L37 K)))
      else
        wb_291_46 I3 L4 K))
set_option maxHeartbeats 6000000 in
set_option maxRecDepth 100000 in
theorem s_291 {S : am_S} {d : Nat} {N : Nat} {T : Nat → Nat × Nat} {I : am_I} {L : am_J} {r : Nat → Nat → Option Nat} {Q : am_Q} {K : Int32 → am_I → am_J → Prop} (hw : w_291 I L K) (hK : ∀ (q : Int32) (I1 : am_I) (L1 : am_J), K q I1 L1 → Q (some (.int q)) (N, am_ts T, I1, L1, am_rs r)) : am_E S 291 (d + 10) 0 0 0 [.ref 66, am_jk, am_jk, am_jk] [] (N, am_ts T, I, L, am_rs r) Q := by
  unfold w_291 at hw
  try dsimp only at hw
  refine am_E.run [12] 2000 (show (am_E S 291 (d + 10) 0 0 12 [.ref 66, am_jk, am_jk, am_jk] [.int 1, .ref 66] (N, am_ts T, (am_u (am_u I 66 0 0) 66 56 (-1)), L, am_rs r) Q) from ?_)
  refine am_E.go ⟨am_kv_IL N T r _, s_205 hw (fun I1 L2 hk => ⟨I1, L2, rfl, rfl, hk⟩), ?_⟩
  intro v h9 hv
  obtain ⟨I1, L2, rfl, rfl, hw⟩ := hv
  try dsimp only at hw
  refine am_E.run [16] 2000 (show (am_E S 291 (d + 10) 0 0 16 [.ref 66, am_jk, am_jk, am_jk] [.ref 66] (N, am_ts T, I1, L2, am_rs r) Q) from ?_)
  refine am_E.go ⟨am_kv_IL N T r _, s_292 hw (fun I3 L4 hk => ⟨I3, L4, rfl, rfl, hk⟩), ?_⟩
  intro v h9 hv
  obtain ⟨I3, L4, rfl, rfl, hw⟩ := hv
  try dsimp only at hw
  refine am_E.run [29, 46] 2000 (show (if (I3 66 19) = 0 then (am_E S 291 (d + 10) 0 0 29 [.ref 66, am_jk, am_jk, am_jk] [.int 59, .ref 66] (N, am_ts T, I3, L4, am_rs r) Q) else (am_E S 291 (d + 10) 0 0 46 [.ref 66, am_jk, am_jk, am_jk] [] (N, am_ts T, I3, L4, am_rs r) Q)) from ?_)
  by_cases hc : (I3 66 19) = 0
  · rw [if_pos hc] at hw ⊢
    refine am_E.go ⟨fun v h9 => v = some (.int (f_216 59 I3 L4)) ∧ h9 = (N, am_ts T, I3, L4, am_rs r), s_216 ⟨rfl, rfl⟩, ?_⟩
    intro v h9 hv
    obtain ⟨rfl, rfl⟩ := hv
    refine am_E.run [36, 46] 2000 (show (if (f_216 59 I3 L4) = 0 then (am_E S 291 (d + 10) 0 0 46 [.ref 66, am_jk, am_jk, am_jk] [] (N, am_ts T, I3, L4, am_rs r) Q) else (am_E S 291 (d + 10) 0 0 36 [.ref 66, am_jk, am_jk, am_jk] [.ref 66] (N, am_ts T, I3, L4, am_rs r) Q)) from ?_)
    by_cases hc : (f_216 59 I3 L4) = 0
    · rw [if_pos hc] at hw ⊢
      exact sb_291_46 hw hK
    · rw [if_neg hc] at hw ⊢
      refine am_E.go ⟨am_kv_IL N T r _, s_207 hw (fun I28 L29 hk => ⟨I28, L29, rfl, rfl, hk⟩), ?_⟩
      intro v h9 hv
      obtain ⟨I28, L29, rfl, rfl, hw⟩ := hv
      try dsimp only at hw
      refine am_E.run [40] 2000 (show (am_E S 291 (d + 10) 0 0 40 [.ref 66, am_jk, am_jk, am_jk] [.ref 66] (N, am_ts T, I28, L29, am_rs r) Q) from ?_)
      refine am_E.go ⟨am_kv_IL N T r _, s_292 hw (fun I30 L31 hk => ⟨I30, L31, rfl, rfl, hk⟩), ?_⟩
      intro v h9 hv
      obtain ⟨I30, L31, rfl, rfl, hw⟩ := hv
      try dsimp only at hw
      refine am_E.run [19] 2000 (show (am_E S 291 (d + 10) 0 0 19 [.ref 66, am_jk, am_jk, am_jk] [] (N, am_ts T, I30, L31, am_rs r) Q) from ?_)
      obtain ⟨n19, hw⟩ := hw
      refine sl_291_19 n19 hw (fun I36 L37 hw => ?_)
      · try dsimp only at hw
        show (am_E S 291 (d + 10) 0 0 46 [.ref 66, am_jk, am_jk, am_jk] [] (N, am_ts T, I36, L37, am_rs r) Q)
        exact sb_291_46 hw hK
  · rw [if_neg hc] at hw ⊢
    exact sb_291_46 hw hK
