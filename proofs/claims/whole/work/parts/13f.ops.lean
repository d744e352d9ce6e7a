/-! terms, count, drawn -/
theorem inv_term {D : am_P} (hD : FrD D) {N : Nat} {T : Nat → Nat × Nat} {r : Nat → Nat → Option Nat} {I : am_I} {L : am_J} (h : Inv D N T r I L) {J : am_I}
    (j0 : ∀ c, c ≠ 0 → c ≠ 12 → c ≠ 29 → c ≠ 66 → c ≠ 68 → J c = I c) (jR : ∀ i, (i < 5 ∨ 9 ≤ i) → J 68 i = I 68 i) (jt : PRt (I 1) (J 12) (J 68))
    (j29 : J 29 0 = 0) (j668 : J 66 8 = 0) (j010 : J 0 10 = 0) (jM : MSr (J 0) (I 65) (J 66) (I 67)) (j13 : J 66 13 = I 66 13) (jN : J 66 60 = I 66 60) (jN2 : J 66 61 = I 66 61) (jF2 : J 66 18 = I 66 18) (jS : J 66 56 = I 66 56) (jO : J 66 20 = I 66 20) : Inv D N T r J L := by
  obtain ⟨⟨h1, h2, h3, h4, h5, h6, h7, h8, h9, f1, f2, f3, f4, f5⟩, hdd⟩ := h
  have J1 : J 1 = I 1 := by apply j0 <;> decide
  have J2 : J 2 = I 2 := by apply j0 <;> decide
  have J3 : J 3 = I 3 := by apply j0 <;> decide
  have J4 : J 4 = I 4 := by apply j0 <;> decide
  have J5 : J 5 = I 5 := by apply j0 <;> decide
  have J6 : J 6 = I 6 := by apply j0 <;> decide
  have J7 : J 7 = I 7 := by apply j0 <;> decide
  have J8 : J 8 = I 8 := by apply j0 <;> decide
  have J9 : J 9 = I 9 := by apply j0 <;> decide
  have J10 : J 10 = I 10 := by apply j0 <;> decide
  have J14 : J 14 = I 14 := by apply j0 <;> decide
  have J15 : J 15 = I 15 := by apply j0 <;> decide
  have J75 : J 75 = I 75 := by apply j0 <;> decide
  have J63 : J 63 = I 63 := by apply j0 <;> decide
  have J64 : J 64 = I 64 := by apply j0 <;> decide
  have J98 : J 98 = I 98 := by apply j0 <;> decide
  have J65 : J 65 = I 65 := by apply j0 <;> decide
  have J67 : J 67 = I 67 := by apply j0 <;> decide
  have J35 : J 35 = I 35 := by apply j0 <;> decide
  have J92 : J 92 = I 92 := by apply j0 <;> decide
  have J69 : J 69 = I 69 := by apply j0 <;> decide
  have J70 : J 70 = I 70 := by apply j0 <;> decide
  obtain ⟨m, v, hm, hv, a1, a2, a3, hp⟩ := id h2
  have R1 : J 68 1 = nI m := (jR 1 (by omega)).trans a2
  refine ⟨⟨?_, ?_, ?_, ?_, ?_, ?_, UNr_0 hm R1 j29 j668, ?_, ?_, ?_⟩, hD _ _ _ I _ _ ⟨fun c hc => j0 c (by omega) (by omega) (by omega) (by omega) (by omega), by rw [J1], fun i hi => jR i (by omega), J69, J70, Or.inl j010⟩ hdd⟩
  · rw [J1, J2, J3]
    exact PRd_cg h1 rfl rfl (fun _ _ => rfl) (fun _ _ => rfl) (jR 0 (by omega)) (fun i g1 g2 => jR i (by omega))
  · rw [J1, J4, J5, J6, J7, J8]
    exact PRm_cg h2 rfl rfl (jR 1 (by omega)) (fun i g1 g2 => jR i (by omega))
  · rw [J1, J9, J10]
    exact PRc_cg h3 rfl (jR 1 (by omega)) (jR 2 (by omega)) (fun i g1 g2 => jR i (by omega))
  · rw [J1]
    exact PRl_cg h4 rfl rfl (jR 3 (by omega)) (jR 4 (by omega))
  · rw [J1]
    exact jt
  · rw [J14, J15, J75, j13]
    exact h6
  · rw [J63, J64, J98, jN, jN2]
    exact h8
  · rw [J65, J67]
    exact jM
  · exact ⟨by rw [J14, jF2]; exact f1, by rw [J35, jS]; exact f2, by rw [jO]; exact f3, by rw [J92]; exact f4, f5⟩
theorem t182_0 (x : Int32) : f_182 x.toInt64 0 9999 = f_13 x 0 9999 := q182 x 0 9999
theorem inv_t0 {D : am_P} (hD : FrD D) {N : Nat} {T : Nat → Nat × Nat} {r : Nat → Nat → Option Nat} {I : am_I} {L : am_J} (h : Inv D N T r I L) {t : Nat} (ht1 : 0 ≤ t) (ht2 : t ≤ 9999) : I 12 0 = I 68 5 ∧ Inv D N T r (am_u (am_u (am_u (am_u (am_u (am_u (am_u (am_u I 12 0 (nI t)) 29 0 0) 0 12 0) 0 10 0) 66 0 0) 66 8 0) 68 5 (nI t)) 66 1 0) L := by
  obtain ⟨a, b, c, d, e, h1, h2, h3, h4, h5, h6, q1, q2, q3, q4, q5, s1, s2, s3, s4, s5⟩ := h.1.2.2.2.2.1
  refine ⟨q1.trans s1.symm, ?_⟩
  refine inv_term hD h (fun c c0 c12 c29 c66 c68 => ?_) (fun i hi => ?_) ⟨t, b, c, d, e, ht2, h2, h3, h4, h5, h6, rfl, q2, q3, q4, q5, rfl, s2, s3, s4, s5⟩ rfl rfl rfl (MSr_0 h.1.2.2.2.2.2.2.2.2.1 rfl rfl rfl rfl) rfl rfl rfl rfl rfl rfl
  · rw [uu_h c66, uu_h c68, uu_h c66, uu_h c66, uu_h c0, uu_h c0, uu_h c29, uu_h c12]
  · exact (show am_u I 68 5 (nI t) 68 i = I 68 i from uu_n (by omega))
theorem t182_1 (x : Int32) : f_182 x.toInt64 1 6 = f_13 x 1 6 := q182 x 1 6
theorem inv_t1 {D : am_P} (hD : FrD D) {N : Nat} {T : Nat → Nat × Nat} {r : Nat → Nat → Option Nat} {I : am_I} {L : am_J} (h : Inv D N T r I L) {t : Nat} (ht1 : 1 ≤ t) (ht2 : t ≤ 6) : I 12 1 = I 68 6 ∧ Inv D N T r (am_u (am_u (am_u (am_u (am_u (am_u (am_u (am_u I 12 1 (nI t)) 29 0 0) 0 12 0) 0 10 0) 66 0 0) 66 8 0) 68 6 (nI t)) 66 1 0) L := by
  obtain ⟨a, b, c, d, e, h1, h2, h3, h4, h5, h6, q1, q2, q3, q4, q5, s1, s2, s3, s4, s5⟩ := h.1.2.2.2.2.1
  refine ⟨q2.trans s2.symm, ?_⟩
  refine inv_term hD h (fun c c0 c12 c29 c66 c68 => ?_) (fun i hi => ?_) ⟨a, t, c, d, e, h1, ht1, ht2, h4, h5, h6, q1, rfl, q3, q4, q5, s1, rfl, s3, s4, s5⟩ rfl rfl rfl (MSr_0 h.1.2.2.2.2.2.2.2.2.1 rfl rfl rfl rfl) rfl rfl rfl rfl rfl rfl
  · rw [uu_h c66, uu_h c68, uu_h c66, uu_h c66, uu_h c0, uu_h c0, uu_h c29, uu_h c12]
  · exact (show am_u I 68 6 (nI t) 68 i = I 68 i from uu_n (by omega))
theorem t182_2 (x : Int32) : f_182 x.toInt64 0 10 = f_13 x 0 10 := q182 x 0 10
theorem inv_t2 {D : am_P} (hD : FrD D) {N : Nat} {T : Nat → Nat × Nat} {r : Nat → Nat → Option Nat} {I : am_I} {L : am_J} (h : Inv D N T r I L) {t : Nat} (ht1 : 0 ≤ t) (ht2 : t ≤ 10) : I 12 2 = I 68 7 ∧ Inv D N T r (am_u (am_u (am_u (am_u (am_u (am_u (am_u (am_u I 12 2 (nI t)) 29 0 0) 0 12 0) 0 10 0) 66 0 0) 66 8 0) 68 7 (nI t)) 66 1 0) L := by
  obtain ⟨a, b, c, d, e, h1, h2, h3, h4, h5, h6, q1, q2, q3, q4, q5, s1, s2, s3, s4, s5⟩ := h.1.2.2.2.2.1
  refine ⟨q3.trans s3.symm, ?_⟩
  refine inv_term hD h (fun c c0 c12 c29 c66 c68 => ?_) (fun i hi => ?_) ⟨a, b, t, d, e, h1, h2, h3, ht2, h5, h6, q1, q2, rfl, q4, q5, s1, s2, rfl, s4, s5⟩ rfl rfl rfl (MSr_0 h.1.2.2.2.2.2.2.2.2.1 rfl rfl rfl rfl) rfl rfl rfl rfl rfl rfl
  · rw [uu_h c66, uu_h c68, uu_h c66, uu_h c66, uu_h c0, uu_h c0, uu_h c29, uu_h c12]
  · exact (show am_u I 68 7 (nI t) 68 i = I 68 i from uu_n (by omega))
theorem t182_3 (x : Int32) : f_182 x.toInt64 0 9 = f_13 x 0 9 := q182 x 0 9
theorem inv_t3 {D : am_P} (hD : FrD D) {N : Nat} {T : Nat → Nat × Nat} {r : Nat → Nat → Option Nat} {I : am_I} {L : am_J} (h : Inv D N T r I L) {t : Nat} (ht1 : 0 ≤ t) (ht2 : t ≤ 9) : I 12 3 = I 68 8 ∧ Inv D N T r (am_u (am_u (am_u (am_u (am_u (am_u (am_u (am_u I 12 3 (nI t)) 29 0 0) 0 12 0) 0 10 0) 66 0 0) 66 8 0) 68 8 (nI t)) 66 1 0) L := by
  obtain ⟨a, b, c, d, e, h1, h2, h3, h4, h5, h6, q1, q2, q3, q4, q5, s1, s2, s3, s4, s5⟩ := h.1.2.2.2.2.1
  refine ⟨q4.trans s4.symm, ?_⟩
  refine inv_term hD h (fun c c0 c12 c29 c66 c68 => ?_) (fun i hi => ?_) ⟨a, b, c, t, e, h1, h2, h3, h4, ht2, h6, q1, q2, q3, rfl, q5, s1, s2, s3, rfl, s5⟩ rfl rfl rfl (MSr_0 h.1.2.2.2.2.2.2.2.2.1 rfl rfl rfl rfl) rfl rfl rfl rfl rfl rfl
  · rw [uu_h c66, uu_h c68, uu_h c66, uu_h c66, uu_h c0, uu_h c0, uu_h c29, uu_h c12]
  · exact (show am_u I 68 8 (nI t) 68 i = I 68 i from uu_n (by omega))
theorem o_7 {D : am_P} (hD : FrD D) {N : Nat} {T : Nat → Nat × Nat} {r : Nat → Nat → Option Nat} {I : am_I} {L : am_J} (h : Inv D N T r I L) (x1 x2 : Int32) : op_7 x1 x2 (Inv D) N T r I L := by
  unfold op_7 w_31
  rcases q13 x1 0 3 (by decide) (by decide) with ⟨a1, g⟩ | ⟨a1, k, _, hk, rfl⟩
  · rw [if_pos (show f_13 x1 0 3 = 0 from a1)]
    refine rf1 ?_
    show w_197 _ _ _ _
    unfold w_197
    simp only [t182_0, t182_1, t182_2, t182_3]
    rw [if_neg (show ¬ x1 = 0 from g 0 (by omega) (by omega)), if_neg (show ¬ x1 = 1 from g 1 (by omega) (by omega)), if_neg (show ¬ x1 = 2 from g 2 (by omega) (by omega)), if_neg (show ¬ x1 = 3 from g 3 (by omega) (by omega))]
    unfold wb_197_77
    rw [if_pos rfl]
    exact tl1 ⟨rfl, inv_r1 hD h⟩
  rw [if_neg (by rw [show f_13 (nI k) 0 3 = 1 from a1]; decide)]
  unfold w_24 w_16
  rcases (by omega : k = 0 ∨ k = 1 ∨ k = 2 ∨ k = 3) with rfl | rfl | rfl | rfl
  · refine ⟨by decide, by decide, ?_⟩
    rcases q13 x2 0 9999 (by decide) (by decide) with ⟨b1, _⟩ | ⟨b1, t, ht1, ht2, rfl⟩
    · have b1 : f_13 x2 0 9999 = 0 := b1
      refine am_ifp b1 (rf1 ?_)
      show w_197 _ _ _ _
      unfold w_197
      simp only [t182_0, t182_1, t182_2, t182_3]
      rw [if_pos (show nI 0 = 0 from rfl)]
      unfold wb_197_77
      rw [if_pos b1]
      exact tl1 ⟨rfl, inv_r1 hD h⟩
    · have b1 : f_13 (nI t) 0 9999 = 1 := b1
      refine am_ifn (show ¬ f_13 (nI t) 0 9999 = 0 by rw [b1]; decide) ?_
      refine ⟨by decide, by decide, ?_⟩
      show w_197 _ _ _ _
      unfold w_197
      simp only [t182_0, t182_1, t182_2, t182_3]
      rw [if_pos (show nI 0 = 0 from rfl)]
      unfold wb_197_77
      rw [if_neg (by rw [b1]; decide)]
      exact q188 (at_ := 5) (by decide) (inv_t0 hD h ht1 ht2)
  · refine ⟨by decide, by decide, ?_⟩
    rcases q13 x2 1 6 (by decide) (by decide) with ⟨b1, _⟩ | ⟨b1, t, ht1, ht2, rfl⟩
    · have b1 : f_13 x2 1 6 = 0 := b1
      refine am_ifp b1 (rf1 ?_)
      show w_197 _ _ _ _
      unfold w_197
      simp only [t182_0, t182_1, t182_2, t182_3]
      rw [if_neg (show ¬ nI 1 = 0 by decide), if_pos (show nI 1 = 1 from rfl)]
      unfold wb_197_77
      rw [if_pos b1]
      exact tl1 ⟨rfl, inv_r1 hD h⟩
    · have b1 : f_13 (nI t) 1 6 = 1 := b1
      refine am_ifn (show ¬ f_13 (nI t) 1 6 = 0 by rw [b1]; decide) ?_
      refine ⟨by decide, by decide, ?_⟩
      show w_197 _ _ _ _
      unfold w_197
      simp only [t182_0, t182_1, t182_2, t182_3]
      rw [if_neg (show ¬ nI 1 = 0 by decide), if_pos (show nI 1 = 1 from rfl)]
      unfold wb_197_77
      rw [if_neg (by rw [b1]; decide)]
      exact q188 (at_ := 6) (by decide) (inv_t1 hD h ht1 ht2)
  · refine ⟨by decide, by decide, ?_⟩
    rcases q13 x2 0 10 (by decide) (by decide) with ⟨b1, _⟩ | ⟨b1, t, ht1, ht2, rfl⟩
    · have b1 : f_13 x2 0 10 = 0 := b1
      refine am_ifp b1 (rf1 ?_)
      show w_197 _ _ _ _
      unfold w_197
      simp only [t182_0, t182_1, t182_2, t182_3]
      rw [if_neg (show ¬ nI 2 = 0 by decide), if_neg (show ¬ nI 2 = 1 by decide), if_pos (show nI 2 = 2 from rfl)]
      unfold wb_197_77
      rw [if_pos b1]
      exact tl1 ⟨rfl, inv_r1 hD h⟩
    · have b1 : f_13 (nI t) 0 10 = 1 := b1
      refine am_ifn (show ¬ f_13 (nI t) 0 10 = 0 by rw [b1]; decide) ?_
      refine ⟨by decide, by decide, ?_⟩
      show w_197 _ _ _ _
      unfold w_197
      simp only [t182_0, t182_1, t182_2, t182_3]
      rw [if_neg (show ¬ nI 2 = 0 by decide), if_neg (show ¬ nI 2 = 1 by decide), if_pos (show nI 2 = 2 from rfl)]
      unfold wb_197_77
      rw [if_neg (by rw [b1]; decide)]
      exact q188 (at_ := 7) (by decide) (inv_t2 hD h ht1 ht2)
  · refine ⟨by decide, by decide, ?_⟩
    rcases q13 x2 0 9 (by decide) (by decide) with ⟨b1, _⟩ | ⟨b1, t, ht1, ht2, rfl⟩
    · have b1 : f_13 x2 0 9 = 0 := b1
      refine am_ifp b1 (rf1 ?_)
      show w_197 _ _ _ _
      unfold w_197
      simp only [t182_0, t182_1, t182_2, t182_3]
      rw [if_neg (show ¬ nI 3 = 0 by decide), if_neg (show ¬ nI 3 = 1 by decide), if_neg (show ¬ nI 3 = 2 by decide), if_pos (show nI 3 = 3 from rfl)]
      rw [if_pos b1]
      unfold wb_197_77
      rw [if_pos rfl]
      exact tl1 ⟨rfl, inv_r1 hD h⟩
    · have b1 : f_13 (nI t) 0 9 = 1 := b1
      refine am_ifn (show ¬ f_13 (nI t) 0 9 = 0 by rw [b1]; decide) ?_
      refine ⟨by decide, by decide, ?_⟩
      show w_197 _ _ _ _
      unfold w_197
      simp only [t182_0, t182_1, t182_2, t182_3]
      rw [if_neg (show ¬ nI 3 = 0 by decide), if_neg (show ¬ nI 3 = 1 by decide), if_neg (show ¬ nI 3 = 2 by decide), if_pos (show nI 3 = 3 from rfl)]
      rw [if_neg (by rw [b1]; decide)]
      unfold wb_197_77
      rw [if_neg (by decide)]
      exact q188 (at_ := 8) (by decide) (inv_t3 hD h ht1 ht2)
