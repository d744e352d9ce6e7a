def lw_134_4 : Nat → Int32 → Int32 → am_I → (Int32 → Int32 → Prop) → Prop
  | 0, _, _, _, _ => False
  | n + 1, v1, v2, I, E0 =>
    if (I 1 10) ≤ v2 then
      E0 v1 v2
    else
      ¬ (v2 < 0 ∨ 8 ≤ Int32.toNatClampNeg v2) ∧
      if (I 6 (Int32.toNatClampNeg v2)) = 0 then
        lw_134_4 n v1 (v2 + 1) I E0
      else
        w_126 v2 I (fun q1 =>
          if q1 = (-1) then
            lw_134_4 n v1 (v2 + 1) I E0
          else
            lw_134_4 n (v1 ||| (1 <<< (v2 &&& 31))) (v2 + 1) I E0)
set_option maxRecDepth 100000 in
theorem sl_134_4 {S : am_S} {d : Nat} {Q : am_Q} {N : Nat} {T : Nat → Nat × Nat} {I : am_I} {L : am_J} {r : Nat → Nat → Option Nat} {E0 : Int32 → Int32 → Prop} : ∀ (n : Nat) {v1 : Int32} {v2 : Int32}, lw_134_4 n v1 v2 I E0 → (∀ (o1 : Int32) (o2 : Int32), E0 o1 o2 → am_E S 134 (d + 3) 0 0 55 [.ref 0, .int o1, .int o2] [] (N, am_ts T, I, L, am_rs r) Q) → am_E S 134 (d + 3) 0 0 4 [.ref 0, .int v1, .int v2] [] (N, am_ts T, I, L, am_rs r) Q
  | 0, _, _, hw, _ => hw.elim
  | n + 1, v1, v2, hw, hE0 => by
    have ih := @sl_134_4 S d Q N T I L r E0 n
    unfold lw_134_4 at hw
    try dsimp only at hw
    refine am_E.run [4, 36, 55] 2000 (show (if (I 1 10) ≤ v2 then (am_E S 134 (d + 3) 0 0 55 [.ref 0, .int v1, .int v2] [] (N, am_ts T, I, L, am_rs r) Q) else (if v2 < 0 ∨ 8 ≤ Int32.toNatClampNeg v2 then False else (if (I 6 (Int32.toNatClampNeg v2)) = 0 then (am_E S 134 (d + 3) 0 0 4 [.ref 0, .int v1, .int (v2 + 1)] [] (N, am_ts T, I, L, am_rs r) Q) else (am_E S 134 (d + 3) 0 0 36 [.ref 0, .int v1, .int v2] [.int v2, .ref 1, .ref 55] (N, am_ts T, I, L, am_rs r) Q)))) from ?_)
    by_cases hc : (I 1 10) ≤ v2
    · rw [if_pos hc] at hw ⊢
      exact hE0 _ _ hw
    · rw [if_neg hc] at hw ⊢
      refine am_ifn hw.1 ?_
      replace hw := hw.2
      by_cases hc : (I 6 (Int32.toNatClampNeg v2)) = 0
      · rw [if_pos hc] at hw ⊢
        exact ih hw hE0
      · rw [if_neg hc] at hw ⊢
        refine am_E.go ⟨am_ki_ N T I L r _, s_126 hw (fun q1 hk => ⟨q1, rfl, rfl, hk⟩), ?_⟩
        intro v h9 hv
        obtain ⟨q1, rfl, rfl, hw⟩ := hv
        try dsimp only at hw
        refine am_E.run [4] 2000 (show (if q1 = (-1) then (am_E S 134 (d + 3) 0 0 4 [.ref 0, .int v1, .int (v2 + 1)] [] (N, am_ts T, I, L, am_rs r) Q) else (am_E S 134 (d + 3) 0 0 4 [.ref 0, .int (v1 ||| (1 <<< (v2 &&& 31))), .int (v2 + 1)] [] (N, am_ts T, I, L, am_rs r) Q)) from ?_)
        by_cases hc : q1 = (-1)
        · rw [if_pos hc] at hw ⊢
          exact ih hw hE0
        · rw [if_neg hc] at hw ⊢
          exact ih hw hE0
/-- KeyKeepers.together()I -/
def w_134 (I : am_I) (K : Int32 → Prop) : Prop :=
  ∃ n4, lw_134_4 n4 0 0 I (fun o2 o3 =>
    K o2)
set_option maxRecDepth 100000 in
theorem s_134 {S : am_S} {d : Nat} {N : Nat} {T : Nat → Nat × Nat} {I : am_I} {L : am_J} {r : Nat → Nat → Option Nat} {Q : am_Q} {K : Int32 → Prop} (hw : w_134 I K) (hK : ∀ (q : Int32), K q → Q (some (.int q)) (N, am_ts T, I, L, am_rs r)) : am_E S 134 (d + 3) 0 0 0 [.ref 0, am_jk, am_jk] [] (N, am_ts T, I, L, am_rs r) Q := by
  unfold w_134 at hw
  try dsimp only at hw
  refine am_E.run [4] 2000 (show (am_E S 134 (d + 3) 0 0 4 [.ref 0, .int 0, .int 0] [] (N, am_ts T, I, L, am_rs r) Q) from ?_)
  obtain ⟨n4, hw⟩ := hw
  refine sl_134_4 n4 hw (fun o2 o3 hw => ?_)
  · try dsimp only at hw
    refine am_E.run [] 2000 (show (True ∧ Q (some (.int o2)) (N, am_ts T, I, L, am_rs r)) from ?_)
    exact ⟨trivial, hK _ hw⟩
def lw_136_94 : Nat → Nat → Nat → Int32 → Int32 → Int32 → Nat → (Nat → Nat × Nat) → (Nat → Nat → Option Nat) → am_I → am_J → (Int32 → Int32 → am_I → Prop) → Prop
  | 0, _, _, _, _, _, _, _, _, _, _, _ => False
  | n + 1, v0, v1, v2, v3, v4, N, T, r, I, L, E0 =>
    if (8 : Int32) ≤ v4 then
      E0 v2 v4 I
    else
      (am_ts T v0).1 = 9 ∧ ∃ c1, (am_rs r v0 5) = some c1 ∧
      ((am_ts T c1).1 = 20) ∧
      ¬ (v3 < 0 ∨ (am_ts T c1).2 ≤ Int32.toNatClampNeg v3) ∧
      if (I c1 (Int32.toNatClampNeg v3)) ≤ v4 then
        if (495 : Int32) ≤ v2 then
          lw_136_94 n v0 v1 v2 v3 (v4 + 1) N T r I L E0
        else
          (am_ts T v0).1 = 9 ∧ ∃ c2, (am_rs r v0 3) = some c2 ∧
          ((am_ts T c2).1 = 20) ∧
          ¬ (((v3 * 8) + v4) < 0 ∨ (am_ts T c2).2 ≤ Int32.toNatClampNeg ((v3 * 8) + v4)) ∧
          ((am_ts T v1).1 = 20) ∧
          ¬ (v2 < 0 ∨ (am_ts T v1).2 ≤ Int32.toNatClampNeg v2) ∧
          (am_ts T v0).1 = 9 ∧ ∃ c3, (am_rs r v0 4) = some c3 ∧
          (am_ts T v0).1 = 9 ∧ ∃ c4, (am_rs r v0 4) = some c4 ∧
          ((am_ts T c4).1 = 20) ∧
          ¬ (v3 < 0 ∨ (am_ts T c4).2 ≤ Int32.toNatClampNeg v3) ∧
          ((am_ts T c3).1 = 20) ∧
          ¬ (v2 < 0 ∨ (am_ts T c3).2 ≤ Int32.toNatClampNeg v2) ∧
          (am_ts T v0).1 = 9 ∧ ∃ c5, (am_rs r v0 5) = some c5 ∧
          ((am_ts T c5).1 = 20) ∧
          ¬ (v2 < 0 ∨ (am_ts T c5).2 ≤ Int32.toNatClampNeg v2) ∧
          (am_ts T v0).1 = 9 ∧ ∃ c6, (am_rs r v0 6) = some c6 ∧
          (am_ts T v0).1 = 9 ∧ ∃ c7, (am_rs r v0 6) = some c7 ∧
          ((am_ts T c7).1 = 20) ∧
          ¬ (v3 < 0 ∨ (am_ts T c7).2 ≤ Int32.toNatClampNeg v3) ∧
          ((am_ts T c6).1 = 20) ∧
          ¬ (v2 < 0 ∨ (am_ts T c6).2 ≤ Int32.toNatClampNeg v2) ∧
          lw_136_94 n v0 v1 (v2 + 1) v3 (v4 + 1) N T r (am_u (am_u (am_u (am_u (am_u I c2 (Int32.toNatClampNeg ((v3 * 8) + v4)) v2) v1 (Int32.toNatClampNeg v2) v3) c3 (Int32.toNatClampNeg v2) (((am_u (am_u I c2 (Int32.toNatClampNeg ((v3 * 8) + v4)) v2) v1 (Int32.toNatClampNeg v2) v3) c4 (Int32.toNatClampNeg v3)) + 1)) c5 (Int32.toNatClampNeg v2) v4) c6 (Int32.toNatClampNeg v2) (((am_u (am_u (am_u (am_u I c2 (Int32.toNatClampNeg ((v3 * 8) + v4)) v2) v1 (Int32.toNatClampNeg v2) v3) c3 (Int32.toNatClampNeg v2) (((am_u (am_u I c2 (Int32.toNatClampNeg ((v3 * 8) + v4)) v2) v1 (Int32.toNatClampNeg v2) v3) c4 (Int32.toNatClampNeg v3)) + 1)) c5 (Int32.toNatClampNeg v2) v4) c7 (Int32.toNatClampNeg v3)) + (f_137 v4))) L E0
      else
        (am_ts T v0).1 = 9 ∧ ∃ c8, (am_rs r v0 3) = some c8 ∧
        ((am_ts T v1).1 = 20) ∧
        ¬ (v3 < 0 ∨ (am_ts T v1).2 ≤ Int32.toNatClampNeg v3) ∧
        ((am_ts T c8).1 = 20) ∧
        ¬ ((((I v1 (Int32.toNatClampNeg v3)) * 8) + v4) < 0 ∨ (am_ts T c8).2 ≤ Int32.toNatClampNeg (((I v1 (Int32.toNatClampNeg v3)) * 8) + v4)) ∧
        (am_ts T v0).1 = 9 ∧ ∃ c9, (am_rs r v0 3) = some c9 ∧
        (am_ts T v0).1 = 9 ∧ ∃ c10, (am_rs r v0 3) = some c10 ∧
        (am_ts T v0).1 = 9 ∧ ∃ c11, (am_rs r v0 5) = some c11 ∧
        ((am_ts T c11).1 = 20) ∧
        ¬ (v3 < 0 ∨ (am_ts T c11).2 ≤ Int32.toNatClampNeg v3) ∧
        ((am_ts T c10).1 = 20) ∧
        ¬ ((((I c8 (Int32.toNatClampNeg (((I v1 (Int32.toNatClampNeg v3)) * 8) + v4))) * 8) + (I c11 (Int32.toNatClampNeg v3))) < 0 ∨ (am_ts T c10).2 ≤ Int32.toNatClampNeg (((I c8 (Int32.toNatClampNeg (((I v1 (Int32.toNatClampNeg v3)) * 8) + v4))) * 8) + (I c11 (Int32.toNatClampNeg v3)))) ∧
        ((am_ts T c9).1 = 20) ∧
        ¬ (((v3 * 8) + v4) < 0 ∨ (am_ts T c9).2 ≤ Int32.toNatClampNeg ((v3 * 8) + v4)) ∧
        lw_136_94 n v0 v1 v2 v3 (v4 + 1) N T r (am_u I c9 (Int32.toNatClampNeg ((v3 * 8) + v4)) (I c10 (Int32.toNatClampNeg (((I c8 (Int32.toNatClampNeg (((I v1 (Int32.toNatClampNeg v3)) * 8) + v4))) * 8) + (I c11 (Int32.toNatClampNeg v3)))))) L E0
set_option maxRecDepth 100000 in
theorem sl_136_94 {S : am_S} {d : Nat} {Q : am_Q} {N : Nat} {T : Nat → Nat × Nat} {L : am_J} {r : Nat → Nat → Option Nat} {E0 : Int32 → Int32 → am_I → Prop} : ∀ (n : Nat) {v0 : Nat} {v1 : Nat} {v2 : Int32} {v3 : Int32} {v4 : Int32} {I : am_I}, lw_136_94 n v0 v1 v2 v3 v4 N T r I L E0 → (∀ (o2 : Int32) (o4 : Int32) (I1 : am_I), E0 o2 o4 I1 → am_E S 136 (d + 1) 9 11322 232 [.ref v0, .ref v1, .int o2, .int v3, .int o4, am_jk, am_jk] [] (N, am_ts T, I1, L, am_rs r) Q) → am_E S 136 (d + 1) 9 11322 94 [.ref v0, .ref v1, .int v2, .int v3, .int v4, am_jk, am_jk] [] (N, am_ts T, I, L, am_rs r) Q
  | 0, _, _, _, _, _, _, hw, _ => hw.elim
  | n + 1, v0, v1, v2, v3, v4, I, hw, hE0 => by
    have ih := @sl_136_94 S d Q N T L r E0 n
    unfold lw_136_94 at hw
    try dsimp only at hw
    refine am_E.run [116, 232] 2000 (show (if (8 : Int32) ≤ v4 then (am_E S 136 (d + 1) 9 11322 232 [.ref v0, .ref v1, .int v2, .int v3, .int v4, am_jk, am_jk] [] (N, am_ts T, I, L, am_rs r) Q) else (if (am_ts T v0).1 = 9 ∧ 2 < 4 then (am_E S 136 (d + 1) 9 11322 116 [.ref v0, .ref v1, .int v2, .int v3, .int v4, .int ((v3 * 8) + v4), am_jk] [am_rv (am_rs r v0 5), .int v4] (N, am_ts T, I, L, am_rs r) Q) else False)) from ?_)
    by_cases hc : (8 : Int32) ≤ v4
    · rw [if_pos hc] at hw ⊢
      exact hE0 _ _ _ hw
    · rw [if_neg hc] at hw ⊢
      refine am_ifp ⟨hw.1, by decide⟩ ?_
      replace hw := hw.2
      obtain ⟨c1, hx, hw⟩ := hw
      rw [hx]
      refine am_E.run [94, 125, 175] 2000 (show (if (am_ts T c1).1 = 20 then (if v3 < 0 ∨ (am_ts T c1).2 ≤ Int32.toNatClampNeg v3 then False else (if (I c1 (Int32.toNatClampNeg v3)) ≤ v4 then (if (495 : Int32) ≤ v2 then (am_E S 136 (d + 1) 9 11322 94 [.ref v0, .ref v1, .int v2, .int v3, .int (v4 + 1), .int ((v3 * 8) + v4), am_jk] [] (N, am_ts T, I, L, am_rs r) Q) else (if (am_ts T v0).1 = 9 ∧ 2 < 4 then (am_E S 136 (d + 1) 9 11322 175 [.ref v0, .ref v1, .int v2, .int v3, .int v4, .int ((v3 * 8) + v4), am_jk] [am_rv (am_rs r v0 3)] (N, am_ts T, I, L, am_rs r) Q) else False)) else (if (am_ts T v0).1 = 9 ∧ 2 < 4 then (am_E S 136 (d + 1) 9 11322 125 [.ref v0, .ref v1, .int v2, .int v3, .int v4, .int ((v3 * 8) + v4), am_jk] [am_rv (am_rs r v0 3)] (N, am_ts T, I, L, am_rs r) Q) else False))) else False) from ?_)
      refine am_ifp hw.1 ?_
      replace hw := hw.2
      refine am_ifn hw.1 ?_
      replace hw := hw.2
      by_cases hc : (I c1 (Int32.toNatClampNeg v3)) ≤ v4
      · rw [if_pos hc] at hw ⊢
        by_cases hc : (495 : Int32) ≤ v2
        · rw [if_pos hc] at hw ⊢
          exact am_E.junk (ih hw hE0) (am_le.cons (am_le.cons (am_le.cons (am_le.cons (am_le.cons (am_le.jk (am_le.cons am_le.nil)))))))
        · rw [if_neg hc] at hw ⊢
          refine am_ifp ⟨hw.1, by decide⟩ ?_
          replace hw := hw.2
          obtain ⟨c2, hx, hw⟩ := hw
          rw [hx]
          refine am_E.run [187] 2000 (show (if (am_ts T c2).1 = 20 then (if ((v3 * 8) + v4) < 0 ∨ (am_ts T c2).2 ≤ Int32.toNatClampNeg ((v3 * 8) + v4) then False else (if (am_ts T v1).1 = 20 then (if v2 < 0 ∨ (am_ts T v1).2 ≤ Int32.toNatClampNeg v2 then False else (if (am_ts T v0).1 = 9 ∧ 2 < 4 then (am_E S 136 (d + 1) 9 11322 187 [.ref v0, .ref v1, .int v2, .int v3, .int v4, .int ((v3 * 8) + v4), am_jk] [am_rv (am_rs r v0 4)] (N, am_ts T, (am_u (am_u I c2 (Int32.toNatClampNeg ((v3 * 8) + v4)) v2) v1 (Int32.toNatClampNeg v2) v3), L, am_rs r) Q) else False)) else False)) else False) from ?_)
          refine am_ifp hw.1 ?_
          replace hw := hw.2
          refine am_ifn hw.1 ?_
          replace hw := hw.2
          refine am_ifp hw.1 ?_
          replace hw := hw.2
          refine am_ifn hw.1 ?_
          replace hw := hw.2
          refine am_ifp ⟨hw.1, by decide⟩ ?_
          replace hw := hw.2
          obtain ⟨c3, hx, hw⟩ := hw
          rw [hx]
          refine am_E.run [192] 2000 (show (if (am_ts T v0).1 = 9 ∧ 2 < 4 then (am_E S 136 (d + 1) 9 11322 192 [.ref v0, .ref v1, .int v2, .int v3, .int v4, .int ((v3 * 8) + v4), am_jk] [am_rv (am_rs r v0 4), .int v2, .ref c3] (N, am_ts T, (am_u (am_u I c2 (Int32.toNatClampNeg ((v3 * 8) + v4)) v2) v1 (Int32.toNatClampNeg v2) v3), L, am_rs r) Q) else False) from ?_)
          refine am_ifp ⟨hw.1, by decide⟩ ?_
          replace hw := hw.2
          obtain ⟨c4, hx, hw⟩ := hw
          rw [hx]
          refine am_E.run [201] 2000 (show (if (am_ts T c4).1 = 20 then (if v3 < 0 ∨ (am_ts T c4).2 ≤ Int32.toNatClampNeg v3 then False else (if (am_ts T c3).1 = 20 then (if v2 < 0 ∨ (am_ts T c3).2 ≤ Int32.toNatClampNeg v2 then False else (if (am_ts T v0).1 = 9 ∧ 2 < 4 then (am_E S 136 (d + 1) 9 11322 201 [.ref v0, .ref v1, .int v2, .int v3, .int v4, .int ((v3 * 8) + v4), am_jk] [am_rv (am_rs r v0 5)] (N, am_ts T, (am_u (am_u (am_u I c2 (Int32.toNatClampNeg ((v3 * 8) + v4)) v2) v1 (Int32.toNatClampNeg v2) v3) c3 (Int32.toNatClampNeg v2) (((am_u (am_u I c2 (Int32.toNatClampNeg ((v3 * 8) + v4)) v2) v1 (Int32.toNatClampNeg v2) v3) c4 (Int32.toNatClampNeg v3)) + 1)), L, am_rs r) Q) else False)) else False)) else False) from ?_)
          refine am_ifp hw.1 ?_
          replace hw := hw.2
          refine am_ifn hw.1 ?_
          replace hw := hw.2
          refine am_ifp hw.1 ?_
          replace hw := hw.2
          refine am_ifn hw.1 ?_
          replace hw := hw.2
          refine am_ifp ⟨hw.1, by decide⟩ ?_
          replace hw := hw.2
          obtain ⟨c5, hx, hw⟩ := hw
          rw [hx]
          refine am_E.run [209] 2000 (show (if (am_ts T c5).1 = 20 then (if v2 < 0 ∨ (am_ts T c5).2 ≤ Int32.toNatClampNeg v2 then False else (if (am_ts T v0).1 = 9 ∧ 2 < 4 then (am_E S 136 (d + 1) 9 11322 209 [.ref v0, .ref v1, .int v2, .int v3, .int v4, .int ((v3 * 8) + v4), am_jk] [am_rv (am_rs r v0 6)] (N, am_ts T, (am_u (am_u (am_u (am_u I c2 (Int32.toNatClampNeg ((v3 * 8) + v4)) v2) v1 (Int32.toNatClampNeg v2) v3) c3 (Int32.toNatClampNeg v2) (((am_u (am_u I c2 (Int32.toNatClampNeg ((v3 * 8) + v4)) v2) v1 (Int32.toNatClampNeg v2) v3) c4 (Int32.toNatClampNeg v3)) + 1)) c5 (Int32.toNatClampNeg v2) v4), L, am_rs r) Q) else False)) else False) from ?_)
          refine am_ifp hw.1 ?_
          replace hw := hw.2
          refine am_ifn hw.1 ?_
          replace hw := hw.2
          refine am_ifp ⟨hw.1, by decide⟩ ?_
          replace hw := hw.2
          obtain ⟨c6, hx, hw⟩ := hw
          rw [hx]
          refine am_E.run [214] 2000 (show (if (am_ts T v0).1 = 9 ∧ 2 < 4 then (am_E S 136 (d + 1) 9 11322 214 [.ref v0, .ref v1, .int v2, .int v3, .int v4, .int ((v3 * 8) + v4), am_jk] [am_rv (am_rs r v0 6), .int v2, .ref c6] (N, am_ts T, (am_u (am_u (am_u (am_u I c2 (Int32.toNatClampNeg ((v3 * 8) + v4)) v2) v1 (Int32.toNatClampNeg v2) v3) c3 (Int32.toNatClampNeg v2) (((am_u (am_u I c2 (Int32.toNatClampNeg ((v3 * 8) + v4)) v2) v1 (Int32.toNatClampNeg v2) v3) c4 (Int32.toNatClampNeg v3)) + 1)) c5 (Int32.toNatClampNeg v2) v4), L, am_rs r) Q) else False) from ?_)
          refine am_ifp ⟨hw.1, by decide⟩ ?_
          replace hw := hw.2
          obtain ⟨c7, hx, hw⟩ := hw
          rw [hx]
          refine am_E.run [218] 2000 (show (if (am_ts T c7).1 = 20 then (if v3 < 0 ∨ (am_ts T c7).2 ≤ Int32.toNatClampNeg v3 then False else (am_E S 136 (d + 1) 9 11322 218 [.ref v0, .ref v1, .int v2, .int v3, .int v4, .int ((v3 * 8) + v4), am_jk] [.int v4, .int ((am_u (am_u (am_u (am_u I c2 (Int32.toNatClampNeg ((v3 * 8) + v4)) v2) v1 (Int32.toNatClampNeg v2) v3) c3 (Int32.toNatClampNeg v2) (((am_u (am_u I c2 (Int32.toNatClampNeg ((v3 * 8) + v4)) v2) v1 (Int32.toNatClampNeg v2) v3) c4 (Int32.toNatClampNeg v3)) + 1)) c5 (Int32.toNatClampNeg v2) v4) c7 (Int32.toNatClampNeg v3)), .int v2, .ref c6] (N, am_ts T, (am_u (am_u (am_u (am_u I c2 (Int32.toNatClampNeg ((v3 * 8) + v4)) v2) v1 (Int32.toNatClampNeg v2) v3) c3 (Int32.toNatClampNeg v2) (((am_u (am_u I c2 (Int32.toNatClampNeg ((v3 * 8) + v4)) v2) v1 (Int32.toNatClampNeg v2) v3) c4 (Int32.toNatClampNeg v3)) + 1)) c5 (Int32.toNatClampNeg v2) v4), L, am_rs r) Q)) else False) from ?_)
          refine am_ifp hw.1 ?_
          replace hw := hw.2
          refine am_ifn hw.1 ?_
          replace hw := hw.2
          refine am_E.go ⟨fun v h9 => v = some (.int (f_137 v4)) ∧ h9 = (N, am_ts T, (am_u (am_u (am_u (am_u I c2 (Int32.toNatClampNeg ((v3 * 8) + v4)) v2) v1 (Int32.toNatClampNeg v2) v3) c3 (Int32.toNatClampNeg v2) (((am_u (am_u I c2 (Int32.toNatClampNeg ((v3 * 8) + v4)) v2) v1 (Int32.toNatClampNeg v2) v3) c4 (Int32.toNatClampNeg v3)) + 1)) c5 (Int32.toNatClampNeg v2) v4), L, am_rs r), s_137 ⟨rfl, rfl⟩, ?_⟩
          intro v h9 hv
          obtain ⟨rfl, rfl⟩ := hv
          refine am_E.run [94] 2000 (show (if (am_ts T c6).1 = 20 then (if v2 < 0 ∨ (am_ts T c6).2 ≤ Int32.toNatClampNeg v2 then False else (am_E S 136 (d + 1) 9 11322 94 [.ref v0, .ref v1, .int (v2 + 1), .int v3, .int (v4 + 1), .int ((v3 * 8) + v4), am_jk] [] (N, am_ts T, (am_u (am_u (am_u (am_u (am_u I c2 (Int32.toNatClampNeg ((v3 * 8) + v4)) v2) v1 (Int32.toNatClampNeg v2) v3) c3 (Int32.toNatClampNeg v2) (((am_u (am_u I c2 (Int32.toNatClampNeg ((v3 * 8) + v4)) v2) v1 (Int32.toNatClampNeg v2) v3) c4 (Int32.toNatClampNeg v3)) + 1)) c5 (Int32.toNatClampNeg v2) v4) c6 (Int32.toNatClampNeg v2) (((am_u (am_u (am_u (am_u I c2 (Int32.toNatClampNeg ((v3 * 8) + v4)) v2) v1 (Int32.toNatClampNeg v2) v3) c3 (Int32.toNatClampNeg v2) (((am_u (am_u I c2 (Int32.toNatClampNeg ((v3 * 8) + v4)) v2) v1 (Int32.toNatClampNeg v2) v3) c4 (Int32.toNatClampNeg v3)) + 1)) c5 (Int32.toNatClampNeg v2) v4) c7 (Int32.toNatClampNeg v3)) + (f_137 v4))), L, am_rs r) Q)) else False) from ?_)
          refine am_ifp hw.1 ?_
          replace hw := hw.2
          refine am_ifn hw.1 ?_
          replace hw := hw.2
          exact am_E.junk (ih hw hE0) (am_le.cons (am_le.cons (am_le.cons (am_le.cons (am_le.cons (am_le.jk (am_le.cons am_le.nil)))))))
      · rw [if_neg hc] at hw ⊢
        refine am_ifp ⟨hw.1, by decide⟩ ?_
        replace hw := hw.2
        obtain ⟨c8, hx, hw⟩ := hw
        rw [hx]
        refine am_E.run [141] 2000 (show (if (am_ts T v1).1 = 20 then (if v3 < 0 ∨ (am_ts T v1).2 ≤ Int32.toNatClampNeg v3 then False else (if (am_ts T c8).1 = 20 then (if (((I v1 (Int32.toNatClampNeg v3)) * 8) + v4) < 0 ∨ (am_ts T c8).2 ≤ Int32.toNatClampNeg (((I v1 (Int32.toNatClampNeg v3)) * 8) + v4) then False else (if (am_ts T v0).1 = 9 ∧ 2 < 4 then (am_E S 136 (d + 1) 9 11322 141 [.ref v0, .ref v1, .int v2, .int v3, .int v4, .int ((v3 * 8) + v4), .int (I c8 (Int32.toNatClampNeg (((I v1 (Int32.toNatClampNeg v3)) * 8) + v4)))] [am_rv (am_rs r v0 3)] (N, am_ts T, I, L, am_rs r) Q) else False)) else False)) else False) from ?_)
        refine am_ifp hw.1 ?_
        replace hw := hw.2
        refine am_ifn hw.1 ?_
        replace hw := hw.2
        refine am_ifp hw.1 ?_
        replace hw := hw.2
        refine am_ifn hw.1 ?_
        replace hw := hw.2
        refine am_ifp ⟨hw.1, by decide⟩ ?_
        replace hw := hw.2
        obtain ⟨c9, hx, hw⟩ := hw
        rw [hx]
        refine am_E.run [147] 2000 (show (if (am_ts T v0).1 = 9 ∧ 2 < 4 then (am_E S 136 (d + 1) 9 11322 147 [.ref v0, .ref v1, .int v2, .int v3, .int v4, .int ((v3 * 8) + v4), .int (I c8 (Int32.toNatClampNeg (((I v1 (Int32.toNatClampNeg v3)) * 8) + v4)))] [am_rv (am_rs r v0 3), .int ((v3 * 8) + v4), .ref c9] (N, am_ts T, I, L, am_rs r) Q) else False) from ?_)
        refine am_ifp ⟨hw.1, by decide⟩ ?_
        replace hw := hw.2
        obtain ⟨c10, hx, hw⟩ := hw
        rw [hx]
        refine am_E.run [156] 2000 (show (if (am_ts T v0).1 = 9 ∧ 2 < 4 then (am_E S 136 (d + 1) 9 11322 156 [.ref v0, .ref v1, .int v2, .int v3, .int v4, .int ((v3 * 8) + v4), .int (I c8 (Int32.toNatClampNeg (((I v1 (Int32.toNatClampNeg v3)) * 8) + v4)))] [am_rv (am_rs r v0 5), .int ((I c8 (Int32.toNatClampNeg (((I v1 (Int32.toNatClampNeg v3)) * 8) + v4))) * 8), .ref c10, .int ((v3 * 8) + v4), .ref c9] (N, am_ts T, I, L, am_rs r) Q) else False) from ?_)
        refine am_ifp ⟨hw.1, by decide⟩ ?_
        replace hw := hw.2
        obtain ⟨c11, hx, hw⟩ := hw
        rw [hx]
        refine am_E.run [94] 2000 (show (if (am_ts T c11).1 = 20 then (if v3 < 0 ∨ (am_ts T c11).2 ≤ Int32.toNatClampNeg v3 then False else (if (am_ts T c10).1 = 20 then (if (((I c8 (Int32.toNatClampNeg (((I v1 (Int32.toNatClampNeg v3)) * 8) + v4))) * 8) + (I c11 (Int32.toNatClampNeg v3))) < 0 ∨ (am_ts T c10).2 ≤ Int32.toNatClampNeg (((I c8 (Int32.toNatClampNeg (((I v1 (Int32.toNatClampNeg v3)) * 8) + v4))) * 8) + (I c11 (Int32.toNatClampNeg v3))) then False else (if (am_ts T c9).1 = 20 then (if ((v3 * 8) + v4) < 0 ∨ (am_ts T c9).2 ≤ Int32.toNatClampNeg ((v3 * 8) + v4) then False else (am_E S 136 (d + 1) 9 11322 94 [.ref v0, .ref v1, .int v2, .int v3, .int (v4 + 1), .int ((v3 * 8) + v4), .int (I c8 (Int32.toNatClampNeg (((I v1 (Int32.toNatClampNeg v3)) * 8) + v4)))] [] (N, am_ts T, (am_u I c9 (Int32.toNatClampNeg ((v3 * 8) + v4)) (I c10 (Int32.toNatClampNeg (((I c8 (Int32.toNatClampNeg (((I v1 (Int32.toNatClampNeg v3)) * 8) + v4))) * 8) + (I c11 (Int32.toNatClampNeg v3)))))), L, am_rs r) Q)) else False)) else False)) else False) from ?_)
        refine am_ifp hw.1 ?_
        replace hw := hw.2
        refine am_ifn hw.1 ?_
        replace hw := hw.2
        refine am_ifp hw.1 ?_
        replace hw := hw.2
        refine am_ifn hw.1 ?_
        replace hw := hw.2
        refine am_ifp hw.1 ?_
        replace hw := hw.2
        refine am_ifn hw.1 ?_
        replace hw := hw.2
        exact am_E.junk (ih hw hE0) (am_le.cons (am_le.cons (am_le.cons (am_le.cons (am_le.cons (am_le.jk (am_le.jk am_le.nil)))))))
def lw_136_84 : Nat → Nat → Nat → Int32 → Int32 → Nat → (Nat → Nat × Nat) → (Nat → Nat → Option Nat) → am_I → am_J → (Int32 → Int32 → am_I → Prop) → Prop
  | 0, _, _, _, _, _, _, _, _, _, _ => False
  | n + 1, v0, v1, v2, v3, N, T, r, I, L, E0 =>
    if (165 : Int32) ≤ v3 then
      E0 v2 v3 I
    else
      ∃ n94, lw_136_94 n94 v0 v1 v2 v3 0 N T r I L (fun o12 o13 I14 =>
        lw_136_84 n v0 v1 o12 (v3 + 1) N T r I14 L E0)
set_option maxRecDepth 100000 in
theorem sl_136_84 {S : am_S} {d : Nat} {Q : am_Q} {N : Nat} {T : Nat → Nat × Nat} {L : am_J} {r : Nat → Nat → Option Nat} {E0 : Int32 → Int32 → am_I → Prop} : ∀ (n : Nat) {v0 : Nat} {v1 : Nat} {v2 : Int32} {v3 : Int32} {I : am_I}, lw_136_84 n v0 v1 v2 v3 N T r I L E0 → (∀ (o2 : Int32) (o3 : Int32) (I1 : am_I), E0 o2 o3 I1 → am_E S 136 (d + 1) 9 11322 238 [.ref v0, .ref v1, .int o2, .int o3, am_jk, am_jk, am_jk] [] (N, am_ts T, I1, L, am_rs r) Q) → am_E S 136 (d + 1) 9 11322 84 [.ref v0, .ref v1, .int v2, .int v3, am_jk, am_jk, am_jk] [] (N, am_ts T, I, L, am_rs r) Q
  | 0, _, _, _, _, _, hw, _ => hw.elim
  | n + 1, v0, v1, v2, v3, I, hw, hE0 => by
    have ih := @sl_136_84 S d Q N T L r E0 n
    unfold lw_136_84 at hw
    try dsimp only at hw
    refine am_E.run [94, 238] 2000 (show (if (165 : Int32) ≤ v3 then (am_E S 136 (d + 1) 9 11322 238 [.ref v0, .ref v1, .int v2, .int v3, am_jk, am_jk, am_jk] [] (N, am_ts T, I, L, am_rs r) Q) else (am_E S 136 (d + 1) 9 11322 94 [.ref v0, .ref v1, .int v2, .int v3, .int 0, am_jk, am_jk] [] (N, am_ts T, I, L, am_rs r) Q)) from ?_)
    by_cases hc : (165 : Int32) ≤ v3
    · rw [if_pos hc] at hw ⊢
      exact hE0 _ _ _ hw
    · rw [if_neg hc] at hw ⊢
      obtain ⟨n94, hw⟩ := hw
      refine sl_136_94 n94 hw (fun o12 o13 I14 hw => ?_)
      · try dsimp only at hw
        refine am_E.run [84] 2000 (show (am_E S 136 (d + 1) 9 11322 84 [.ref v0, .ref v1, .int o12, .int (v3 + 1), .int o13, am_jk, am_jk] [] (N, am_ts T, I14, L, am_rs r) Q) from ?_)
        exact am_E.junk (ih hw hE0) (am_le.cons (am_le.cons (am_le.cons (am_le.cons (am_le.jk (am_le.cons (am_le.cons am_le.nil)))))))
/-- KeyKeepers$Rota.<init>()V -/
def w_136 (a : Nat) (N : Nat) (T : Nat → Nat × Nat) (r : Nat → Nat → Option Nat) (I : am_I) (L : am_J) (K : Nat → (Nat → Nat × Nat) → (Nat → Nat → Option Nat) → am_I → am_J → Prop) : Prop :=
  99 ≤ N ∧ 
  am_fr a 2 ∧ ((am_ts (am_tn T N 20 6) a).1 = 9) ∧ 
  99 ≤ (N + 1) ∧ 
  am_fr a 3 ∧ ((am_ts (am_tn (am_tn T N 20 6) (N + 1) 20 1320) a).1 = 9) ∧ 
  99 ≤ ((N + 1) + 1) ∧ 
  am_fr a 4 ∧ ((am_ts (am_tn (am_tn (am_tn T N 20 6) (N + 1) 20 1320) ((N + 1) + 1) 20 495) a).1 = 9) ∧ 
  99 ≤ (((N + 1) + 1) + 1) ∧ 
  am_fr a 5 ∧ ((am_ts (am_tn (am_tn (am_tn (am_tn T N 20 6) (N + 1) 20 1320) ((N + 1) + 1) 20 495) (((N + 1) + 1) + 1) 20 495) a).1 = 9) ∧ 
  99 ≤ ((((N + 1) + 1) + 1) + 1) ∧ 
  am_fr a 6 ∧ ((am_ts (am_tn (am_tn (am_tn (am_tn (am_tn T N 20 6) (N + 1) 20 1320) ((N + 1) + 1) 20 495) (((N + 1) + 1) + 1) 20 495) ((((N + 1) + 1) + 1) + 1) 20 495) a).1 = 9) ∧ 
  99 ≤ (((((N + 1) + 1) + 1) + 1) + 1) ∧ 
  am_fr a 7 ∧ ((am_ts (am_tn (am_tn (am_tn (am_tn (am_tn (am_tn T N 20 6) (N + 1) 20 1320) ((N + 1) + 1) 20 495) (((N + 1) + 1) + 1) 20 495) ((((N + 1) + 1) + 1) + 1) 20 495) (((((N + 1) + 1) + 1) + 1) + 1) 20 3960) a).1 = 9) ∧ 
  99 ≤ ((((((N + 1) + 1) + 1) + 1) + 1) + 1) ∧ 
  am_fr a 8 ∧ ((am_ts (am_tn (am_tn (am_tn (am_tn (am_tn (am_tn (am_tn T N 20 6) (N + 1) 20 1320) ((N + 1) + 1) 20 495) (((N + 1) + 1) + 1) 20 495) ((((N + 1) + 1) + 1) + 1) 20 495) (((((N + 1) + 1) + 1) + 1) + 1) 20 3960) ((((((N + 1) + 1) + 1) + 1) + 1) + 1) 20 3960) a).1 = 9) ∧ 
  99 ≤ (((((((N + 1) + 1) + 1) + 1) + 1) + 1) + 1) ∧ 
  am_fr a 9 ∧ ((am_ts (am_tn (am_tn (am_tn (am_tn (am_tn (am_tn (am_tn (am_tn T N 20 6) (N + 1) 20 1320) ((N + 1) + 1) 20 495) (((N + 1) + 1) + 1) 20 495) ((((N + 1) + 1) + 1) + 1) 20 495) (((((N + 1) + 1) + 1) + 1) + 1) 20 3960) ((((((N + 1) + 1) + 1) + 1) + 1) + 1) 20 3960) (((((((N + 1) + 1) + 1) + 1) + 1) + 1) + 1) 20 96) a).1 = 9) ∧ 
  99 ≤ ((((((((N + 1) + 1) + 1) + 1) + 1) + 1) + 1) + 1) ∧ 
  ∃ n84, lw_136_84 n84 a ((((((((N + 1) + 1) + 1) + 1) + 1) + 1) + 1) + 1) 1 0 (((((((((N + 1) + 1) + 1) + 1) + 1) + 1) + 1) + 1) + 1) (am_tn (am_tn (am_tn (am_tn (am_tn (am_tn (am_tn (am_tn (am_tn T N 20 6) (N + 1) 20 1320) ((N + 1) + 1) 20 495) (((N + 1) + 1) + 1) 20 495) ((((N + 1) + 1) + 1) + 1) 20 495) (((((N + 1) + 1) + 1) + 1) + 1) 20 3960) ((((((N + 1) + 1) + 1) + 1) + 1) + 1) 20 3960) (((((((N + 1) + 1) + 1) + 1) + 1) + 1) + 1) 20 96) ((((((((N + 1) + 1) + 1) + 1) + 1) + 1) + 1) + 1) 20 495) (am_z (am_u (am_z (am_u (am_z (am_u (am_z (am_u (am_z (am_u (am_z (am_u (am_z (am_u (am_z (am_u (am_z r N none) a 2 (some N)) (N + 1) none) a 3 (some (N + 1))) ((N + 1) + 1) none) a 4 (some ((N + 1) + 1))) (((N + 1) + 1) + 1) none) a 5 (some (((N + 1) + 1) + 1))) ((((N + 1) + 1) + 1) + 1) none) a 6 (some ((((N + 1) + 1) + 1) + 1))) (((((N + 1) + 1) + 1) + 1) + 1) none) a 7 (some (((((N + 1) + 1) + 1) + 1) + 1))) ((((((N + 1) + 1) + 1) + 1) + 1) + 1) none) a 8 (some ((((((N + 1) + 1) + 1) + 1) + 1) + 1))) (((((((N + 1) + 1) + 1) + 1) + 1) + 1) + 1) none) a 9 (some (((((((N + 1) + 1) + 1) + 1) + 1) + 1) + 1))) ((((((((N + 1) + 1) + 1) + 1) + 1) + 1) + 1) + 1) none) (am_z (am_z (am_z (am_z (am_z (am_z (am_z (am_z (am_z I N 0) (N + 1) 0) ((N + 1) + 1) 0) (((N + 1) + 1) + 1) 0) ((((N + 1) + 1) + 1) + 1) 0) (((((N + 1) + 1) + 1) + 1) + 1) 0) ((((((N + 1) + 1) + 1) + 1) + 1) + 1) 0) (((((((N + 1) + 1) + 1) + 1) + 1) + 1) + 1) 0) ((((((((N + 1) + 1) + 1) + 1) + 1) + 1) + 1) + 1) 0) (am_z (am_z (am_z (am_z (am_z (am_z (am_z (am_z (am_z L N 0) (N + 1) 0) ((N + 1) + 1) 0) (((N + 1) + 1) + 1) 0) ((((N + 1) + 1) + 1) + 1) 0) (((((N + 1) + 1) + 1) + 1) + 1) 0) ((((((N + 1) + 1) + 1) + 1) + 1) + 1) 0) (((((((N + 1) + 1) + 1) + 1) + 1) + 1) + 1) 0) ((((((((N + 1) + 1) + 1) + 1) + 1) + 1) + 1) + 1) 0) (fun o15 o16 I17 =>
    K (((((((((N + 1) + 1) + 1) + 1) + 1) + 1) + 1) + 1) + 1) (am_tn (am_tn (am_tn (am_tn (am_tn (am_tn (am_tn (am_tn (am_tn T N 20 6) (N + 1) 20 1320) ((N + 1) + 1) 20 495) (((N + 1) + 1) + 1) 20 495) ((((N + 1) + 1) + 1) + 1) 20 495) (((((N + 1) + 1) + 1) + 1) + 1) 20 3960) ((((((N + 1) + 1) + 1) + 1) + 1) + 1) 20 3960) (((((((N + 1) + 1) + 1) + 1) + 1) + 1) + 1) 20 96) ((((((((N + 1) + 1) + 1) + 1) + 1) + 1) + 1) + 1) 20 495) (am_z (am_u (am_z (am_u (am_z (am_u (am_z (am_u (am_z (am_u (am_z (am_u (am_z (am_u (am_z (am_u (am_z r N none) a 2 (some N)) (N + 1) none) a 3 (some (N + 1))) ((N + 1) + 1) none) a 4 (some ((N + 1) + 1))) (((N + 1) + 1) + 1) none) a 5 (some (((N + 1) + 1) + 1))) ((((N + 1) + 1) + 1) + 1) none) a 6 (some ((((N + 1) + 1) + 1) + 1))) (((((N + 1) + 1) + 1) + 1) + 1) none) a 7 (some (((((N + 1) + 1) + 1) + 1) + 1))) ((((((N + 1) + 1) + 1) + 1) + 1) + 1) none) a 8 (some ((((((N + 1) + 1) + 1) + 1) + 1) + 1))) (((((((N + 1) + 1) + 1) + 1) + 1) + 1) + 1) none) a 9 (some (((((((N + 1) + 1) + 1) + 1) + 1) + 1) + 1))) ((((((((N + 1) + 1) + 1) + 1) + 1) + 1) + 1) + 1) none) I17 (am_z (am_z (am_z (am_z (am_z (am_z (am_z (am_z (am_z L N 0) (N + 1) 0) ((N + 1) + 1) 0) (((N + 1) + 1) + 1) 0) ((((N + 1) + 1) + 1) + 1) 0) (((((N + 1) + 1) + 1) + 1) + 1) 0) ((((((N + 1) + 1) + 1) + 1) + 1) + 1) 0) (((((((N + 1) + 1) + 1) + 1) + 1) + 1) + 1) 0) ((((((((N + 1) + 1) + 1) + 1) + 1) + 1) + 1) + 1) 0))
set_option maxRecDepth 100000 in
theorem s_136 {S : am_S} {d : Nat} {N : Nat} {T : Nat → Nat × Nat} {I : am_I} {L : am_J} {r : Nat → Nat → Option Nat} {Q : am_Q} {a : Nat} {K : Nat → (Nat → Nat × Nat) → (Nat → Nat → Option Nat) → am_I → am_J → Prop} (hw : w_136 a N T r I L K) (hK : ∀ (N1 : Nat) (T1 : Nat → Nat × Nat) (r1 : Nat → Nat → Option Nat) (I1 : am_I) (L1 : am_J), K N1 T1 r1 I1 L1 → Q (none) (N1, am_ts T1, I1, L1, am_rs r1)) : am_E S 136 (d + 1) 0 0 0 [.ref a, am_jk, am_jk, am_jk, am_jk, am_jk, am_jk] [] (N, am_ts T, I, L, am_rs r) Q := by
  unfold w_136 at hw
  try dsimp only at hw
  refine am_E.run [9] 2000 (show (am_E S 136 (d + 1) 1 6 9 [.ref a, am_jk, am_jk, am_jk, am_jk, am_jk, am_jk] [.ref N, .ref a] (am_n (N, am_ts T, I, L, am_rs r) 20 6) Q) from ?_)
  have hN := hw.1
  replace hw := hw.2
  rw [am_n_eq hN]
  refine am_E.run [12] 2000 (show (if (am_ts (am_tn T N 20 6) a).1 = 9 then (if 2 = 2 then (am_E S 136 (d + 1) 1 6 12 [.ref a, am_jk, am_jk, am_jk, am_jk, am_jk, am_jk] [] ((N + 1), am_ts (am_tn T N 20 6), (am_z I N 0), (am_z L N 0), am_u (am_rs (am_z r N none)) a 2 (some N)) Q) else False) else False) from ?_)
  have hN := hw.1
  replace hw := hw.2
  refine am_ifp hw.1 ?_
  replace hw := hw.2
  refine am_ifp rfl ?_
  rw [am_rs_u hN]
  refine am_E.run [18] 2000 (show (am_E S 136 (d + 1) 2 1326 18 [.ref a, am_jk, am_jk, am_jk, am_jk, am_jk, am_jk] [.ref (N + 1), .ref a] (am_n ((N + 1), am_ts (am_tn T N 20 6), (am_z I N 0), (am_z L N 0), am_rs (am_u (am_z r N none) a 2 (some N))) 20 1320) Q) from ?_)
  have hN := hw.1
  replace hw := hw.2
  rw [am_n_eq hN]
  refine am_E.run [21] 2000 (show (if (am_ts (am_tn (am_tn T N 20 6) (N + 1) 20 1320) a).1 = 9 then (if 2 = 2 then (am_E S 136 (d + 1) 2 1326 21 [.ref a, am_jk, am_jk, am_jk, am_jk, am_jk, am_jk] [] (((N + 1) + 1), am_ts (am_tn (am_tn T N 20 6) (N + 1) 20 1320), (am_z (am_z I N 0) (N + 1) 0), (am_z (am_z L N 0) (N + 1) 0), am_u (am_rs (am_z (am_u (am_z r N none) a 2 (some N)) (N + 1) none)) a 3 (some (N + 1))) Q) else False) else False) from ?_)
  have hN := hw.1
  replace hw := hw.2
  refine am_ifp hw.1 ?_
  replace hw := hw.2
  refine am_ifp rfl ?_
  rw [am_rs_u hN]
  refine am_E.run [27] 2000 (show (am_E S 136 (d + 1) 3 1821 27 [.ref a, am_jk, am_jk, am_jk, am_jk, am_jk, am_jk] [.ref ((N + 1) + 1), .ref a] (am_n (((N + 1) + 1), am_ts (am_tn (am_tn T N 20 6) (N + 1) 20 1320), (am_z (am_z I N 0) (N + 1) 0), (am_z (am_z L N 0) (N + 1) 0), am_rs (am_u (am_z (am_u (am_z r N none) a 2 (some N)) (N + 1) none) a 3 (some (N + 1)))) 20 495) Q) from ?_)
  have hN := hw.1
  replace hw := hw.2
  rw [am_n_eq hN]
  refine am_E.run [30] 2000 (show (if (am_ts (am_tn (am_tn (am_tn T N 20 6) (N + 1) 20 1320) ((N + 1) + 1) 20 495) a).1 = 9 then (if 2 = 2 then (am_E S 136 (d + 1) 3 1821 30 [.ref a, am_jk, am_jk, am_jk, am_jk, am_jk, am_jk] [] ((((N + 1) + 1) + 1), am_ts (am_tn (am_tn (am_tn T N 20 6) (N + 1) 20 1320) ((N + 1) + 1) 20 495), (am_z (am_z (am_z I N 0) (N + 1) 0) ((N + 1) + 1) 0), (am_z (am_z (am_z L N 0) (N + 1) 0) ((N + 1) + 1) 0), am_u (am_rs (am_z (am_u (am_z (am_u (am_z r N none) a 2 (some N)) (N + 1) none) a 3 (some (N + 1))) ((N + 1) + 1) none)) a 4 (some ((N + 1) + 1))) Q) else False) else False) from ?_)
  have hN := hw.1
  replace hw := hw.2
  refine am_ifp hw.1 ?_
  replace hw := hw.2
  refine am_ifp rfl ?_
  rw [am_rs_u hN]
  refine am_E.run [36] 2000 (show (am_E S 136 (d + 1) 4 2316 36 [.ref a, am_jk, am_jk, am_jk, am_jk, am_jk, am_jk] [.ref (((N + 1) + 1) + 1), .ref a] (am_n ((((N + 1) + 1) + 1), am_ts (am_tn (am_tn (am_tn T N 20 6) (N + 1) 20 1320) ((N + 1) + 1) 20 495), (am_z (am_z (am_z I N 0) (N + 1) 0) ((N + 1) + 1) 0), (am_z (am_z (am_z L N 0) (N + 1) 0) ((N + 1) + 1) 0), am_rs (am_u (am_z (am_u (am_z (am_u (am_z r N none) a 2 (some N)) (N + 1) none) a 3 (some (N + 1))) ((N + 1) + 1) none) a 4 (some ((N + 1) + 1)))) 20 495) Q) from ?_)
  have hN := hw.1
  replace hw := hw.2
  rw [am_n_eq hN]
  refine am_E.run [39] 2000 (show (if (am_ts (am_tn (am_tn (am_tn (am_tn T N 20 6) (N + 1) 20 1320) ((N + 1) + 1) 20 495) (((N + 1) + 1) + 1) 20 495) a).1 = 9 then (if 2 = 2 then (am_E S 136 (d + 1) 4 2316 39 [.ref a, am_jk, am_jk, am_jk, am_jk, am_jk, am_jk] [] (((((N + 1) + 1) + 1) + 1), am_ts (am_tn (am_tn (am_tn (am_tn T N 20 6) (N + 1) 20 1320) ((N + 1) + 1) 20 495) (((N + 1) + 1) + 1) 20 495), (am_z (am_z (am_z (am_z I N 0) (N + 1) 0) ((N + 1) + 1) 0) (((N + 1) + 1) + 1) 0), (am_z (am_z (am_z (am_z L N 0) (N + 1) 0) ((N + 1) + 1) 0) (((N + 1) + 1) + 1) 0), am_u (am_rs (am_z (am_u (am_z (am_u (am_z (am_u (am_z r N none) a 2 (some N)) (N + 1) none) a 3 (some (N + 1))) ((N + 1) + 1) none) a 4 (some ((N + 1) + 1))) (((N + 1) + 1) + 1) none)) a 5 (some (((N + 1) + 1) + 1))) Q) else False) else False) from ?_)
  have hN := hw.1
  replace hw := hw.2
  refine am_ifp hw.1 ?_
  replace hw := hw.2
  refine am_ifp rfl ?_
  rw [am_rs_u hN]
  refine am_E.run [45] 2000 (show (am_E S 136 (d + 1) 5 2811 45 [.ref a, am_jk, am_jk, am_jk, am_jk, am_jk, am_jk] [.ref ((((N + 1) + 1) + 1) + 1), .ref a] (am_n (((((N + 1) + 1) + 1) + 1), am_ts (am_tn (am_tn (am_tn (am_tn T N 20 6) (N + 1) 20 1320) ((N + 1) + 1) 20 495) (((N + 1) + 1) + 1) 20 495), (am_z (am_z (am_z (am_z I N 0) (N + 1) 0) ((N + 1) + 1) 0) (((N + 1) + 1) + 1) 0), (am_z (am_z (am_z (am_z L N 0) (N + 1) 0) ((N + 1) + 1) 0) (((N + 1) + 1) + 1) 0), am_rs (am_u (am_z (am_u (am_z (am_u (am_z (am_u (am_z r N none) a 2 (some N)) (N + 1) none) a 3 (some (N + 1))) ((N + 1) + 1) none) a 4 (some ((N + 1) + 1))) (((N + 1) + 1) + 1) none) a 5 (some (((N + 1) + 1) + 1)))) 20 495) Q) from ?_)
  have hN := hw.1
  replace hw := hw.2
  rw [am_n_eq hN]
  refine am_E.run [48] 2000 (show (if (am_ts (am_tn (am_tn (am_tn (am_tn (am_tn T N 20 6) (N + 1) 20 1320) ((N + 1) + 1) 20 495) (((N + 1) + 1) + 1) 20 495) ((((N + 1) + 1) + 1) + 1) 20 495) a).1 = 9 then (if 2 = 2 then (am_E S 136 (d + 1) 5 2811 48 [.ref a, am_jk, am_jk, am_jk, am_jk, am_jk, am_jk] [] ((((((N + 1) + 1) + 1) + 1) + 1), am_ts (am_tn (am_tn (am_tn (am_tn (am_tn T N 20 6) (N + 1) 20 1320) ((N + 1) + 1) 20 495) (((N + 1) + 1) + 1) 20 495) ((((N + 1) + 1) + 1) + 1) 20 495), (am_z (am_z (am_z (am_z (am_z I N 0) (N + 1) 0) ((N + 1) + 1) 0) (((N + 1) + 1) + 1) 0) ((((N + 1) + 1) + 1) + 1) 0), (am_z (am_z (am_z (am_z (am_z L N 0) (N + 1) 0) ((N + 1) + 1) 0) (((N + 1) + 1) + 1) 0) ((((N + 1) + 1) + 1) + 1) 0), am_u (am_rs (am_z (am_u (am_z (am_u (am_z (am_u (am_z (am_u (am_z r N none) a 2 (some N)) (N + 1) none) a 3 (some (N + 1))) ((N + 1) + 1) none) a 4 (some ((N + 1) + 1))) (((N + 1) + 1) + 1) none) a 5 (some (((N + 1) + 1) + 1))) ((((N + 1) + 1) + 1) + 1) none)) a 6 (some ((((N + 1) + 1) + 1) + 1))) Q) else False) else False) from ?_)
  have hN := hw.1
  replace hw := hw.2
  refine am_ifp hw.1 ?_
  replace hw := hw.2
  refine am_ifp rfl ?_
  rw [am_rs_u hN]
  refine am_E.run [54] 2000 (show (am_E S 136 (d + 1) 6 6771 54 [.ref a, am_jk, am_jk, am_jk, am_jk, am_jk, am_jk] [.ref (((((N + 1) + 1) + 1) + 1) + 1), .ref a] (am_n ((((((N + 1) + 1) + 1) + 1) + 1), am_ts (am_tn (am_tn (am_tn (am_tn (am_tn T N 20 6) (N + 1) 20 1320) ((N + 1) + 1) 20 495) (((N + 1) + 1) + 1) 20 495) ((((N + 1) + 1) + 1) + 1) 20 495), (am_z (am_z (am_z (am_z (am_z I N 0) (N + 1) 0) ((N + 1) + 1) 0) (((N + 1) + 1) + 1) 0) ((((N + 1) + 1) + 1) + 1) 0), (am_z (am_z (am_z (am_z (am_z L N 0) (N + 1) 0) ((N + 1) + 1) 0) (((N + 1) + 1) + 1) 0) ((((N + 1) + 1) + 1) + 1) 0), am_rs (am_u (am_z (am_u (am_z (am_u (am_z (am_u (am_z (am_u (am_z r N none) a 2 (some N)) (N + 1) none) a 3 (some (N + 1))) ((N + 1) + 1) none) a 4 (some ((N + 1) + 1))) (((N + 1) + 1) + 1) none) a 5 (some (((N + 1) + 1) + 1))) ((((N + 1) + 1) + 1) + 1) none) a 6 (some ((((N + 1) + 1) + 1) + 1)))) 20 3960) Q) from ?_)
  have hN := hw.1
  replace hw := hw.2
  rw [am_n_eq hN]
  refine am_E.run [57] 2000 (show (if (am_ts (am_tn (am_tn (am_tn (am_tn (am_tn (am_tn T N 20 6) (N + 1) 20 1320) ((N + 1) + 1) 20 495) (((N + 1) + 1) + 1) 20 495) ((((N + 1) + 1) + 1) + 1) 20 495) (((((N + 1) + 1) + 1) + 1) + 1) 20 3960) a).1 = 9 then (if 2 = 2 then (am_E S 136 (d + 1) 6 6771 57 [.ref a, am_jk, am_jk, am_jk, am_jk, am_jk, am_jk] [] (((((((N + 1) + 1) + 1) + 1) + 1) + 1), am_ts (am_tn (am_tn (am_tn (am_tn (am_tn (am_tn T N 20 6) (N + 1) 20 1320) ((N + 1) + 1) 20 495) (((N + 1) + 1) + 1) 20 495) ((((N + 1) + 1) + 1) + 1) 20 495) (((((N + 1) + 1) + 1) + 1) + 1) 20 3960), (am_z (am_z (am_z (am_z (am_z (am_z I N 0) (N + 1) 0) ((N + 1) + 1) 0) (((N + 1) + 1) + 1) 0) ((((N + 1) + 1) + 1) + 1) 0) (((((N + 1) + 1) + 1) + 1) + 1) 0), (am_z (am_z (am_z (am_z (am_z (am_z L N 0) (N + 1) 0) ((N + 1) + 1) 0) (((N + 1) + 1) + 1) 0) ((((N + 1) + 1) + 1) + 1) 0) (((((N + 1) + 1) + 1) + 1) + 1) 0), am_u (am_rs (am_z (am_u (am_z (am_u (am_z (am_u (am_z (am_u (am_z (am_u (am_z r N none) a 2 (some N)) (N + 1) none) a 3 (some (N + 1))) ((N + 1) + 1) none) a 4 (some ((N + 1) + 1))) (((N + 1) + 1) + 1) none) a 5 (some (((N + 1) + 1) + 1))) ((((N + 1) + 1) + 1) + 1) none) a 6 (some ((((N + 1) + 1) + 1) + 1))) (((((N + 1) + 1) + 1) + 1) + 1) none)) a 7 (some (((((N + 1) + 1) + 1) + 1) + 1))) Q) else False) else False) from ?_)
  have hN := hw.1
  replace hw := hw.2
  refine am_ifp hw.1 ?_
  replace hw := hw.2
  refine am_ifp rfl ?_
  rw [am_rs_u hN]
  refine am_E.run [63] 2000 (show (am_E S 136 (d + 1) 7 10731 63 [.ref a, am_jk, am_jk, am_jk, am_jk, am_jk, am_jk] [.ref ((((((N + 1) + 1) + 1) + 1) + 1) + 1), .ref a] (am_n (((((((N + 1) + 1) + 1) + 1) + 1) + 1), am_ts (am_tn (am_tn (am_tn (am_tn (am_tn (am_tn T N 20 6) (N + 1) 20 1320) ((N + 1) + 1) 20 495) (((N + 1) + 1) + 1) 20 495) ((((N + 1) + 1) + 1) + 1) 20 495) (((((N + 1) + 1) + 1) + 1) + 1) 20 3960), (am_z (am_z (am_z (am_z (am_z (am_z I N 0) (N + 1) 0) ((N + 1) + 1) 0) (((N + 1) + 1) + 1) 0) ((((N + 1) + 1) + 1) + 1) 0) (((((N + 1) + 1) + 1) + 1) + 1) 0), (am_z (am_z (am_z (am_z (am_z (am_z L N 0) (N + 1) 0) ((N + 1) + 1) 0) (((N + 1) + 1) + 1) 0) ((((N + 1) + 1) + 1) + 1) 0) (((((N + 1) + 1) + 1) + 1) + 1) 0), am_rs (am_u (am_z (am_u (am_z (am_u (am_z (am_u (am_z (am_u (am_z (am_u (am_z r N none) a 2 (some N)) (N + 1) none) a 3 (some (N + 1))) ((N + 1) + 1) none) a 4 (some ((N + 1) + 1))) (((N + 1) + 1) + 1) none) a 5 (some (((N + 1) + 1) + 1))) ((((N + 1) + 1) + 1) + 1) none) a 6 (some ((((N + 1) + 1) + 1) + 1))) (((((N + 1) + 1) + 1) + 1) + 1) none) a 7 (some (((((N + 1) + 1) + 1) + 1) + 1)))) 20 3960) Q) from ?_)
  have hN := hw.1
  replace hw := hw.2
  rw [am_n_eq hN]
  refine am_E.run [66] 2000 (show (if (am_ts (am_tn (am_tn (am_tn (am_tn (am_tn (am_tn (am_tn T N 20 6) (N + 1) 20 1320) ((N + 1) + 1) 20 495) (((N + 1) + 1) + 1) 20 495) ((((N + 1) + 1) + 1) + 1) 20 495) (((((N + 1) + 1) + 1) + 1) + 1) 20 3960) ((((((N + 1) + 1) + 1) + 1) + 1) + 1) 20 3960) a).1 = 9 then (if 2 = 2 then (am_E S 136 (d + 1) 7 10731 66 [.ref a, am_jk, am_jk, am_jk, am_jk, am_jk, am_jk] [] ((((((((N + 1) + 1) + 1) + 1) + 1) + 1) + 1), am_ts (am_tn (am_tn (am_tn (am_tn (am_tn (am_tn (am_tn T N 20 6) (N + 1) 20 1320) ((N + 1) + 1) 20 495) (((N + 1) + 1) + 1) 20 495) ((((N + 1) + 1) + 1) + 1) 20 495) (((((N + 1) + 1) + 1) + 1) + 1) 20 3960) ((((((N + 1) + 1) + 1) + 1) + 1) + 1) 20 3960), (am_z (am_z (am_z (am_z (am_z (am_z (am_z I N 0) (N + 1) 0) ((N + 1) + 1) 0) (((N + 1) + 1) + 1) 0) ((((N + 1) + 1) + 1) + 1) 0) (((((N + 1) + 1) + 1) + 1) + 1) 0) ((((((N + 1) + 1) + 1) + 1) + 1) + 1) 0), (am_z (am_z (am_z (am_z (am_z (am_z (am_z L N 0) (N + 1) 0) ((N + 1) + 1) 0) (((N + 1) + 1) + 1) 0) ((((N + 1) + 1) + 1) + 1) 0) (((((N + 1) + 1) + 1) + 1) + 1) 0) ((((((N + 1) + 1) + 1) + 1) + 1) + 1) 0), am_u (am_rs (am_z (am_u (am_z (am_u (am_z (am_u (am_z (am_u (am_z (am_u (am_z (am_u (am_z r N none) a 2 (some N)) (N + 1) none) a 3 (some (N + 1))) ((N + 1) + 1) none) a 4 (some ((N + 1) + 1))) (((N + 1) + 1) + 1) none) a 5 (some (((N + 1) + 1) + 1))) ((((N + 1) + 1) + 1) + 1) none) a 6 (some ((((N + 1) + 1) + 1) + 1))) (((((N + 1) + 1) + 1) + 1) + 1) none) a 7 (some (((((N + 1) + 1) + 1) + 1) + 1))) ((((((N + 1) + 1) + 1) + 1) + 1) + 1) none)) a 8 (some ((((((N + 1) + 1) + 1) + 1) + 1) + 1))) Q) else False) else False) from ?_)
  have hN := hw.1
  replace hw := hw.2
  refine am_ifp hw.1 ?_
  replace hw := hw.2
  refine am_ifp rfl ?_
  rw [am_rs_u hN]
  refine am_E.run [71] 2000 (show (am_E S 136 (d + 1) 8 10827 71 [.ref a, am_jk, am_jk, am_jk, am_jk, am_jk, am_jk] [.ref (((((((N + 1) + 1) + 1) + 1) + 1) + 1) + 1), .ref a] (am_n ((((((((N + 1) + 1) + 1) + 1) + 1) + 1) + 1), am_ts (am_tn (am_tn (am_tn (am_tn (am_tn (am_tn (am_tn T N 20 6) (N + 1) 20 1320) ((N + 1) + 1) 20 495) (((N + 1) + 1) + 1) 20 495) ((((N + 1) + 1) + 1) + 1) 20 495) (((((N + 1) + 1) + 1) + 1) + 1) 20 3960) ((((((N + 1) + 1) + 1) + 1) + 1) + 1) 20 3960), (am_z (am_z (am_z (am_z (am_z (am_z (am_z I N 0) (N + 1) 0) ((N + 1) + 1) 0) (((N + 1) + 1) + 1) 0) ((((N + 1) + 1) + 1) + 1) 0) (((((N + 1) + 1) + 1) + 1) + 1) 0) ((((((N + 1) + 1) + 1) + 1) + 1) + 1) 0), (am_z (am_z (am_z (am_z (am_z (am_z (am_z L N 0) (N + 1) 0) ((N + 1) + 1) 0) (((N + 1) + 1) + 1) 0) ((((N + 1) + 1) + 1) + 1) 0) (((((N + 1) + 1) + 1) + 1) + 1) 0) ((((((N + 1) + 1) + 1) + 1) + 1) + 1) 0), am_rs (am_u (am_z (am_u (am_z (am_u (am_z (am_u (am_z (am_u (am_z (am_u (am_z (am_u (am_z r N none) a 2 (some N)) (N + 1) none) a 3 (some (N + 1))) ((N + 1) + 1) none) a 4 (some ((N + 1) + 1))) (((N + 1) + 1) + 1) none) a 5 (some (((N + 1) + 1) + 1))) ((((N + 1) + 1) + 1) + 1) none) a 6 (some ((((N + 1) + 1) + 1) + 1))) (((((N + 1) + 1) + 1) + 1) + 1) none) a 7 (some (((((N + 1) + 1) + 1) + 1) + 1))) ((((((N + 1) + 1) + 1) + 1) + 1) + 1) none) a 8 (some ((((((N + 1) + 1) + 1) + 1) + 1) + 1)))) 20 96) Q) from ?_)
  have hN := hw.1
  replace hw := hw.2
  rw [am_n_eq hN]
  refine am_E.run [74] 2000 (show (if (am_ts (am_tn (am_tn (am_tn (am_tn (am_tn (am_tn (am_tn (am_tn T N 20 6) (N + 1) 20 1320) ((N + 1) + 1) 20 495) (((N + 1) + 1) + 1) 20 495) ((((N + 1) + 1) + 1) + 1) 20 495) (((((N + 1) + 1) + 1) + 1) + 1) 20 3960) ((((((N + 1) + 1) + 1) + 1) + 1) + 1) 20 3960) (((((((N + 1) + 1) + 1) + 1) + 1) + 1) + 1) 20 96) a).1 = 9 then (if 2 = 2 then (am_E S 136 (d + 1) 8 10827 74 [.ref a, am_jk, am_jk, am_jk, am_jk, am_jk, am_jk] [] (((((((((N + 1) + 1) + 1) + 1) + 1) + 1) + 1) + 1), am_ts (am_tn (am_tn (am_tn (am_tn (am_tn (am_tn (am_tn (am_tn T N 20 6) (N + 1) 20 1320) ((N + 1) + 1) 20 495) (((N + 1) + 1) + 1) 20 495) ((((N + 1) + 1) + 1) + 1) 20 495) (((((N + 1) + 1) + 1) + 1) + 1) 20 3960) ((((((N + 1) + 1) + 1) + 1) + 1) + 1) 20 3960) (((((((N + 1) + 1) + 1) + 1) + 1) + 1) + 1) 20 96), (am_z (am_z (am_z (am_z (am_z (am_z (am_z (am_z I N 0) (N + 1) 0) ((N + 1) + 1) 0) (((N + 1) + 1) + 1) 0) ((((N + 1) + 1) + 1) + 1) 0) (((((N + 1) + 1) + 1) + 1) + 1) 0) ((((((N + 1) + 1) + 1) + 1) + 1) + 1) 0) (((((((N + 1) + 1) + 1) + 1) + 1) + 1) + 1) 0), (am_z (am_z (am_z (am_z (am_z (am_z (am_z (am_z L N 0) (N + 1) 0) ((N + 1) + 1) 0) (((N + 1) + 1) + 1) 0) ((((N + 1) + 1) + 1) + 1) 0) (((((N + 1) + 1) + 1) + 1) + 1) 0) ((((((N + 1) + 1) + 1) + 1) + 1) + 1) 0) (((((((N + 1) + 1) + 1) + 1) + 1) + 1) + 1) 0), am_u (am_rs (am_z (am_u (am_z (am_u (am_z (am_u (am_z (am_u (am_z (am_u (am_z (am_u (am_z (am_u (am_z r N none) a 2 (some N)) (N + 1) none) a 3 (some (N + 1))) ((N + 1) + 1) none) a 4 (some ((N + 1) + 1))) (((N + 1) + 1) + 1) none) a 5 (some (((N + 1) + 1) + 1))) ((((N + 1) + 1) + 1) + 1) none) a 6 (some ((((N + 1) + 1) + 1) + 1))) (((((N + 1) + 1) + 1) + 1) + 1) none) a 7 (some (((((N + 1) + 1) + 1) + 1) + 1))) ((((((N + 1) + 1) + 1) + 1) + 1) + 1) none) a 8 (some ((((((N + 1) + 1) + 1) + 1) + 1) + 1))) (((((((N + 1) + 1) + 1) + 1) + 1) + 1) + 1) none)) a 9 (some (((((((N + 1) + 1) + 1) + 1) + 1) + 1) + 1))) Q) else False) else False) from ?_)
  have hN := hw.1
  replace hw := hw.2
  refine am_ifp hw.1 ?_
  replace hw := hw.2
  refine am_ifp rfl ?_
  rw [am_rs_u hN]
  refine am_E.run [79] 2000 (show (am_E S 136 (d + 1) 9 11322 79 [.ref a, am_jk, am_jk, am_jk, am_jk, am_jk, am_jk] [.ref ((((((((N + 1) + 1) + 1) + 1) + 1) + 1) + 1) + 1)] (am_n (((((((((N + 1) + 1) + 1) + 1) + 1) + 1) + 1) + 1), am_ts (am_tn (am_tn (am_tn (am_tn (am_tn (am_tn (am_tn (am_tn T N 20 6) (N + 1) 20 1320) ((N + 1) + 1) 20 495) (((N + 1) + 1) + 1) 20 495) ((((N + 1) + 1) + 1) + 1) 20 495) (((((N + 1) + 1) + 1) + 1) + 1) 20 3960) ((((((N + 1) + 1) + 1) + 1) + 1) + 1) 20 3960) (((((((N + 1) + 1) + 1) + 1) + 1) + 1) + 1) 20 96), (am_z (am_z (am_z (am_z (am_z (am_z (am_z (am_z I N 0) (N + 1) 0) ((N + 1) + 1) 0) (((N + 1) + 1) + 1) 0) ((((N + 1) + 1) + 1) + 1) 0) (((((N + 1) + 1) + 1) + 1) + 1) 0) ((((((N + 1) + 1) + 1) + 1) + 1) + 1) 0) (((((((N + 1) + 1) + 1) + 1) + 1) + 1) + 1) 0), (am_z (am_z (am_z (am_z (am_z (am_z (am_z (am_z L N 0) (N + 1) 0) ((N + 1) + 1) 0) (((N + 1) + 1) + 1) 0) ((((N + 1) + 1) + 1) + 1) 0) (((((N + 1) + 1) + 1) + 1) + 1) 0) ((((((N + 1) + 1) + 1) + 1) + 1) + 1) 0) (((((((N + 1) + 1) + 1) + 1) + 1) + 1) + 1) 0), am_rs (am_u (am_z (am_u (am_z (am_u (am_z (am_u (am_z (am_u (am_z (am_u (am_z (am_u (am_z (am_u (am_z r N none) a 2 (some N)) (N + 1) none) a 3 (some (N + 1))) ((N + 1) + 1) none) a 4 (some ((N + 1) + 1))) (((N + 1) + 1) + 1) none) a 5 (some (((N + 1) + 1) + 1))) ((((N + 1) + 1) + 1) + 1) none) a 6 (some ((((N + 1) + 1) + 1) + 1))) (((((N + 1) + 1) + 1) + 1) + 1) none) a 7 (some (((((N + 1) + 1) + 1) + 1) + 1))) ((((((N + 1) + 1) + 1) + 1) + 1) + 1) none) a 8 (some ((((((N + 1) + 1) + 1) + 1) + 1) + 1))) (((((((N + 1) + 1) + 1) + 1) + 1) + 1) + 1) none) a 9 (some (((((((N + 1) + 1) + 1) + 1) + 1) + 1) + 1)))) 20 495) Q) from ?_)
  have hN := hw.1
  replace hw := hw.2
  rw [am_n_eq hN]
  refine am_E.run [84] 2000 (show (am_E S 136 (d + 1) 9 11322 84 [.ref a, .ref ((((((((N + 1) + 1) + 1) + 1) + 1) + 1) + 1) + 1), .int 1, .int 0, am_jk, am_jk, am_jk] [] ((((((((((N + 1) + 1) + 1) + 1) + 1) + 1) + 1) + 1) + 1), am_ts (am_tn (am_tn (am_tn (am_tn (am_tn (am_tn (am_tn (am_tn (am_tn T N 20 6) (N + 1) 20 1320) ((N + 1) + 1) 20 495) (((N + 1) + 1) + 1) 20 495) ((((N + 1) + 1) + 1) + 1) 20 495) (((((N + 1) + 1) + 1) + 1) + 1) 20 3960) ((((((N + 1) + 1) + 1) + 1) + 1) + 1) 20 3960) (((((((N + 1) + 1) + 1) + 1) + 1) + 1) + 1) 20 96) ((((((((N + 1) + 1) + 1) + 1) + 1) + 1) + 1) + 1) 20 495), (am_z (am_z (am_z (am_z (am_z (am_z (am_z (am_z (am_z I N 0) (N + 1) 0) ((N + 1) + 1) 0) (((N + 1) + 1) + 1) 0) ((((N + 1) + 1) + 1) + 1) 0) (((((N + 1) + 1) + 1) + 1) + 1) 0) ((((((N + 1) + 1) + 1) + 1) + 1) + 1) 0) (((((((N + 1) + 1) + 1) + 1) + 1) + 1) + 1) 0) ((((((((N + 1) + 1) + 1) + 1) + 1) + 1) + 1) + 1) 0), (am_z (am_z (am_z (am_z (am_z (am_z (am_z (am_z (am_z L N 0) (N + 1) 0) ((N + 1) + 1) 0) (((N + 1) + 1) + 1) 0) ((((N + 1) + 1) + 1) + 1) 0) (((((N + 1) + 1) + 1) + 1) + 1) 0) ((((((N + 1) + 1) + 1) + 1) + 1) + 1) 0) (((((((N + 1) + 1) + 1) + 1) + 1) + 1) + 1) 0) ((((((((N + 1) + 1) + 1) + 1) + 1) + 1) + 1) + 1) 0), am_rs (am_z (am_u (am_z (am_u (am_z (am_u (am_z (am_u (am_z (am_u (am_z (am_u (am_z (am_u (am_z (am_u (am_z r N none) a 2 (some N)) (N + 1) none) a 3 (some (N + 1))) ((N + 1) + 1) none) a 4 (some ((N + 1) + 1))) (((N + 1) + 1) + 1) none) a 5 (some (((N + 1) + 1) + 1))) ((((N + 1) + 1) + 1) + 1) none) a 6 (some ((((N + 1) + 1) + 1) + 1))) (((((N + 1) + 1) + 1) + 1) + 1) none) a 7 (some (((((N + 1) + 1) + 1) + 1) + 1))) ((((((N + 1) + 1) + 1) + 1) + 1) + 1) none) a 8 (some ((((((N + 1) + 1) + 1) + 1) + 1) + 1))) (((((((N + 1) + 1) + 1) + 1) + 1) + 1) + 1) none) a 9 (some (((((((N + 1) + 1) + 1) + 1) + 1) + 1) + 1))) ((((((((N + 1) + 1) + 1) + 1) + 1) + 1) + 1) + 1) none)) Q) from ?_)
  obtain ⟨n84, hw⟩ := hw
  refine sl_136_84 n84 hw (fun o15 o16 I17 hw => ?_)
  · try dsimp only at hw
    refine am_E.run [] 2000 (show (True ∧ Q (none) ((((((((((N + 1) + 1) + 1) + 1) + 1) + 1) + 1) + 1) + 1), am_ts (am_tn (am_tn (am_tn (am_tn (am_tn (am_tn (am_tn (am_tn (am_tn T N 20 6) (N + 1) 20 1320) ((N + 1) + 1) 20 495) (((N + 1) + 1) + 1) 20 495) ((((N + 1) + 1) + 1) + 1) 20 495) (((((N + 1) + 1) + 1) + 1) + 1) 20 3960) ((((((N + 1) + 1) + 1) + 1) + 1) + 1) 20 3960) (((((((N + 1) + 1) + 1) + 1) + 1) + 1) + 1) 20 96) ((((((((N + 1) + 1) + 1) + 1) + 1) + 1) + 1) + 1) 20 495), I17, (am_z (am_z (am_z (am_z (am_z (am_z (am_z (am_z (am_z L N 0) (N + 1) 0) ((N + 1) + 1) 0) (((N + 1) + 1) + 1) 0) ((((N + 1) + 1) + 1) + 1) 0) (((((N + 1) + 1) + 1) + 1) + 1) 0) ((((((N + 1) + 1) + 1) + 1) + 1) + 1) 0) (((((((N + 1) + 1) + 1) + 1) + 1) + 1) + 1) 0) ((((((((N + 1) + 1) + 1) + 1) + 1) + 1) + 1) + 1) 0), am_rs (am_z (am_u (am_z (am_u (am_z (am_u (am_z (am_u (am_z (am_u (am_z (am_u (am_z (am_u (am_z (am_u (am_z r N none) a 2 (some N)) (N + 1) none) a 3 (some (N + 1))) ((N + 1) + 1) none) a 4 (some ((N + 1) + 1))) (((N + 1) + 1) + 1) none) a 5 (some (((N + 1) + 1) + 1))) ((((N + 1) + 1) + 1) + 1) none) a 6 (some ((((N + 1) + 1) + 1) + 1))) (((((N + 1) + 1) + 1) + 1) + 1) none) a 7 (some (((((N + 1) + 1) + 1) + 1) + 1))) ((((((N + 1) + 1) + 1) + 1) + 1) + 1) none) a 8 (some ((((((N + 1) + 1) + 1) + 1) + 1) + 1))) (((((((N + 1) + 1) + 1) + 1) + 1) + 1) + 1) none) a 9 (some (((((((N + 1) + 1) + 1) + 1) + 1) + 1) + 1))) ((((((((N + 1) + 1) + 1) + 1) + 1) + 1) + 1) + 1) none))) from ?_)
    exact ⟨trivial, hK _ _ _ _ _ hw⟩
