/-! wall, vote, trust, key, door -/
theorem inv_r1 {D : am_P} (hD : FrD D) {N : Nat} {T : Nat → Nat × Nat} {r : Nat → Nat → Option Nat} {I : am_I} {L : am_J} (h : Inv D N T r I L) : Inv D N T r (am_u (am_u (am_u (am_u (am_u I 0 12 (-1)) 65 0 (I 65 0 + 1)) 66 0 0) 66 1 (-1)) 67 1 (I 67 1 + 1)) L := inv_rf hD h (-1) 0 1 (Or.inl ⟨rfl, rfl⟩)
theorem inv_r2 {D : am_P} (hD : FrD D) {N : Nat} {T : Nat → Nat × Nat} {r : Nat → Nat → Option Nat} {I : am_I} {L : am_J} (h : Inv D N T r I L) : Inv D N T r (am_u (am_u (am_u (am_u (am_u I 0 12 (-2)) 65 1 (I 65 1 + 1)) 66 0 0) 66 1 (-2)) 67 2 (I 67 2 + 1)) L := inv_rf hD h (-2) 1 2 (Or.inr (Or.inl ⟨rfl, rfl⟩))
theorem inv_r3 {D : am_P} (hD : FrD D) {N : Nat} {T : Nat → Nat × Nat} {r : Nat → Nat → Option Nat} {I : am_I} {L : am_J} (h : Inv D N T r I L) : Inv D N T r (am_u (am_u (am_u (am_u (am_u I 0 12 (-3)) 65 2 (I 65 2 + 1)) 66 0 0) 66 1 (-3)) 67 3 (I 67 3 + 1)) L := inv_rf hD h (-3) 2 3 (Or.inr (Or.inr (Or.inl ⟨rfl, rfl⟩)))
theorem inv_r5 {D : am_P} (hD : FrD D) {N : Nat} {T : Nat → Nat × Nat} {r : Nat → Nat → Option Nat} {I : am_I} {L : am_J} (h : Inv D N T r I L) : Inv D N T r (am_u (am_u (am_u (am_u (am_u I 0 12 (-5)) 65 3 (I 65 3 + 1)) 66 0 0) 66 1 (-5)) 67 5 (I 67 5 + 1)) L := inv_rf hD h (-5) 3 5 (Or.inr (Or.inr (Or.inr (Or.inl ⟨rfl, rfl⟩))))
theorem inv_r6 {D : am_P} (hD : FrD D) {N : Nat} {T : Nat → Nat × Nat} {r : Nat → Nat → Option Nat} {I : am_I} {L : am_J} (h : Inv D N T r I L) : Inv D N T r (am_u (am_u (am_u (am_u (am_u I 0 12 (-6)) 65 4 (I 65 4 + 1)) 66 0 0) 66 1 (-6)) 67 6 (I 67 6 + 1)) L := inv_rf hD h (-6) 4 6 (Or.inr (Or.inr (Or.inr (Or.inr ⟨rfl, rfl⟩))))
theorem b182 (x : Int32) : f_182 x.toInt64 0 1 = f_13 x 0 1 := q182 x 0 1
theorem ix3 (d k : Nat) : 58 + 3 * nI d + nI k = nI (58 + 3 * d + k) := by
  rw [show (58 : Int32) = nI 58 from rfl, show (3 : Int32) = nI 3 from rfl, nb_mul, nb_add, nb_add]
/-- the reference's change of one place of its row, all that the class set beside it -/
theorem o_1 {D : am_P} (hD : FrD D) {N : Nat} {T : Nat → Nat × Nat} {r : Nat → Nat → Option Nat} {I : am_I} {L : am_J} (h : Inv D N T r I L) (x1 x2 : Int32) : op_1 x1 x2 (Inv D) N T r I L := by
  unfold op_1 w_17
  rcases q18 x2 with ⟨a1, a2, _, _⟩ | ⟨a1, a2, b, hb, rfl⟩
  · rw [if_pos a1]
    refine rf1 ?_
    show w_186 _ _ _ _
    unfold w_186
    simp only [b182]
    rw [if_pos a2]
    exact tl1 ⟨rfl, inv_r1 hD h⟩
  rw [if_neg (by rw [a1]; decide)]
  obtain ⟨n, w, hn, hw, e1, e2, e3, hp⟩ := h.1.1
  rcases qd hn e1 e2 x1 with ⟨c1, c2, _⟩ | ⟨c1, c2, d, hd, rfl⟩
  · rw [if_pos c1]
    refine rf2 ?_
    show w_186 _ _ _ _
    unfold w_186
    simp only [b182]
    rw [if_neg (by rw [a2]; decide)]
    refine am_ifp c2 ?_
    exact tl2 ⟨rfl, inv_r2 hD h⟩
  rw [if_neg (by rw [c1]; decide)]
  unfold w_16
  show w_186 _ _ _ _
  unfold w_186
  simp only [b182]
  rw [if_neg (by rw [a2]; decide)]
  refine am_ifn (show ¬ f_187 (nI d) I = 0 by rw [c2]; decide) ?_
  rw [show (2 : Int32) = nI 2 from rfl, ix3]
  refine q188 (by omega) ?_
  have hwn : w < 2 ^ 31 := Nat.lt_of_lt_of_le hw (Nat.pow_le_pow_right (by decide) (by omega))
  obtain ⟨b1, _⟩ := hp d hd
  rw [e3, q20 hwn (by omega), q21 (by omega) hb]
  refine ⟨?_, ?_⟩
  · show nI (bi w d) = I 68 (58 + 3 * d + 2)
    rw [show 58 + 3 * d + 2 = 60 + 3 * d by omega, b1]
  obtain ⟨⟨h1, h2, h3, h4, h5, h6, h7, h8, h9, h10⟩, hdd⟩ := h
  have hR : ∀ i, i ≠ 58 + 3 * d + 2 → am_u I 68 (58 + 3 * d + 2) (nI b) 68 i = I 68 i := fun i hi => uu_n hi
  refine ⟨⟨?_, PRm_cg h2 rfl rfl (hR 1 (by omega)) (fun i g1 g2 => hR i (by omega)), PRc_cg h3 rfl (hR 1 (by omega)) (hR 2 (by omega)) (fun i g1 g2 => hR i (by omega)), PRl_cg h4 rfl rfl (hR 3 (by omega)) (hR 4 (by omega)), PRt_cg h5 rfl (fun i g1 g2 => hR i (by omega)), h6, UNr_cg h7 (hR 1 (by omega)) (fun i g1 g2 => hR i (by omega)), h8, MSr_0 h9 rfl rfl rfl rfl, h10⟩, hD _ _ _ I _ _ ⟨fun a ha => ?_, rfl, fun i hi => hR i (by omega), rfl, rfl, Or.inl rfl⟩ hdd⟩
  · refine ⟨n, sb w d b, hn, sb_lt hw hd (by omega) hb, e1, (hR 0 (by omega)).trans e2, rfl, fun j hj => ?_⟩
    obtain ⟨q1, a, c, ha, hc, hac, q2, q3, q4, q5⟩ := hp j hj
    refine ⟨?_, a, c, ha, hc, hac, q2, q3, (hR _ (by omega)).trans q4, (hR _ (by omega)).trans q5⟩
    rw [bi_sb (by omega) hb]
    by_cases e : j = d
    · subst e
      rw [if_pos rfl]
      show am_u I 68 (58 + 3 * j + 2) (nI b) 68 (60 + 3 * j) = nI b
      rw [show 60 + 3 * j = 58 + 3 * j + 2 by omega]
      exact uu_e
    · rw [if_neg e]
      exact (hR _ (by omega)).trans q1
  · repeat rw [uu_h (by omega)]
theorem o_6 {D : am_P} (hD : FrD D) {N : Nat} {T : Nat → Nat × Nat} {r : Nat → Nat → Option Nat} {I : am_I} {L : am_J} (h : Inv D N T r I L) (x1 x2 : Int32) : op_6 x1 x2 (Inv D) N T r I L := by
  unfold op_6 w_30
  rcases q18 x2 with ⟨a1, a2, _, _⟩ | ⟨a1, a2, b, hb, rfl⟩
  · rw [if_pos a1]
    refine rf1 ?_
    show w_196 _ _ _ _
    unfold w_196
    simp only [b182]
    rw [if_pos a2]
    exact tl1 ⟨rfl, inv_r1 hD h⟩
  rw [if_neg (by rw [a1]; decide)]
  obtain ⟨m, v, hm, hv, e1, e2, e3, hp⟩ := h.1.2.1
  rcases qm hm e1 e2 x1 with ⟨c1, c2, _⟩ | ⟨c1, c2, p, hpm, rfl⟩
  · rw [if_pos c1]
    refine rf2 ?_
    show w_196 _ _ _ _
    unfold w_196
    simp only [b182]
    rw [if_neg (by rw [a2]; decide)]
    refine am_ifp c2 ?_
    exact tl2 ⟨rfl, inv_r2 hD h⟩
  rw [if_neg (by rw [c1]; decide)]
  unfold w_16
  show w_196 _ _ _ _
  unfold w_196
  simp only [b182]
  rw [if_neg (by rw [a2]; decide)]
  refine am_ifn (show ¬ f_192 (nI p) I = 0 by rw [c2]; decide) ?_
  rw [show (50 : Int32) = nI 50 from rfl, nb_add]
  refine q188 (by omega) ?_
  obtain ⟨b1, _⟩ := hp p hpm
  rw [e3, q20 (by omega) (by omega), q21 (by omega) hb]
  refine ⟨?_, ?_⟩
  · show nI (bi v p) = I 68 (50 + p)
    rw [b1]
  obtain ⟨⟨h1, h2, h3, h4, h5, h6, h7, h8, h9, h10⟩, hdd⟩ := h
  have hR : ∀ i, i ≠ 50 + p → am_u I 68 (50 + p) (nI b) 68 i = I 68 i := fun i hi => uu_n hi
  refine ⟨⟨PRd_cg h1 rfl rfl (fun _ _ => rfl) (fun _ _ => rfl) (hR 0 (by omega)) (fun i g1 g2 => hR i (by omega)), ?_, PRc_cg h3 rfl (hR 1 (by omega)) (hR 2 (by omega)) (fun i g1 g2 => hR i (by omega)), PRl_cg h4 rfl rfl (hR 3 (by omega)) (hR 4 (by omega)), PRt_cg h5 rfl (fun i g1 g2 => hR i (by omega)), h6, UNr_cg h7 (hR 1 (by omega)) (fun i g1 g2 => hR i (by omega)), h8, MSr_0 h9 rfl rfl rfl rfl, h10⟩, hD _ _ _ I _ _ ⟨fun a ha => ?_, rfl, fun i hi => hR i (by omega), rfl, rfl, Or.inl rfl⟩ hdd⟩
  · refine ⟨m, sb v p b, hm, sb_lt (n := 8) hv (by omega) (by decide) hb, e1, (hR 1 (by omega)).trans e2, rfl, fun j hj => ?_⟩
    obtain ⟨q1, q2⟩ := hp j hj
    refine ⟨?_, PRp_cg q2 (by omega) rfl rfl rfl rfl rfl (fun i g1 g2 => hR i (by omega))⟩
    rw [bi_sb (by omega) hb]
    by_cases e : j = p
    · subst e
      rw [if_pos rfl]
      exact uu_e (f := I) (a := 68) (i := 50 + j) (v := nI b)
    · rw [if_neg e]
      exact (hR _ (by omega)).trans q1
  · repeat rw [uu_h (by omega)]
theorem o_5 {D : am_P} (hD : FrD D) {N : Nat} {T : Nat → Nat × Nat} {r : Nat → Nat → Option Nat} {I : am_I} {L : am_J} (h : Inv D N T r I L) (x1 x2 x3 : Int32) : op_5 x1 x2 x3 (Inv D) N T r I L := by
  unfold op_5 w_29
  by_cases e12 : x1 = x2
  · rw [if_pos e12]
    rcases q18 x3 with ⟨a1, a2, _, _⟩ | ⟨a1, a2, b, hb, _⟩
    · rw [if_pos a1]
      refine rf1 ?_
      show w_195 _ _ _ _ _
      unfold w_195
      simp only [b182]
      exact am_ifp e12 (tl1 ⟨rfl, inv_r1 hD h⟩)
    · rw [if_neg (by rw [a1]; decide)]
      refine rf1 ?_
      show w_195 _ _ _ _ _
      unfold w_195
      simp only [b182]
      exact am_ifp e12 (tl1 ⟨rfl, inv_r1 hD h⟩)
  rw [if_neg e12]
  rcases q18 x3 with ⟨a1, a2, _, _⟩ | ⟨a1, a2, b, hb, rfl⟩
  · rw [if_pos a1]
    refine rf1 ?_
    show w_195 _ _ _ _ _
    unfold w_195
    simp only [b182]
    refine am_ifn e12 ?_
    rw [if_pos a2]
    exact tl1 ⟨rfl, inv_r1 hD h⟩
  rw [if_neg (by rw [a1]; decide)]
  obtain ⟨m, v, hm, hv, e1, e2, e3, hp⟩ := h.1.2.1
  rcases qm hm e1 e2 x1 with ⟨c1, c2, _⟩ | ⟨c1, c2, p, hpm, rfl⟩
  · rw [if_pos c1]
    refine rf2 ?_
    show w_195 _ _ _ _ _
    unfold w_195
    simp only [b182]
    refine am_ifn e12 ?_
    rw [if_neg (by rw [a2]; decide)]
    refine am_ifp c2 ?_
    exact tl2 ⟨rfl, inv_r2 hD h⟩
  rw [if_neg (by rw [c1]; decide)]
  rcases qm hm e1 e2 x2 with ⟨d1, d2, _⟩ | ⟨d1, d2, o, hom, rfl⟩
  · rw [if_pos d1]
    refine rf2 ?_
    show w_195 _ _ _ _ _
    unfold w_195
    simp only [b182]
    refine am_ifn e12 ?_
    rw [if_neg (by rw [a2]; decide)]
    refine am_ifn (show ¬ f_192 (nI p) I = 0 by rw [c2]; decide) ?_
    refine am_ifp d2 ?_
    exact tl2 ⟨rfl, inv_r2 hD h⟩
  rw [if_neg (by rw [d1]; decide)]
  have g8 : ¬ (nI p < 0 ∨ 8 ≤ Int32.toNatClampNeg (nI p)) := nb_gd (by omega) (by decide)
  refine ⟨g8, g8, g8, ?_⟩
  rw [nI_clamp (by omega : p < 2 ^ 31)]
  unfold w_16
  show w_195 _ _ _ _ _
  unfold w_195
  simp only [b182]
  refine am_ifn e12 ?_
  rw [if_neg (by rw [a2]; decide)]
  refine am_ifn (show ¬ f_192 (nI p) I = 0 by rw [c2]; decide) ?_
  refine am_ifn (show ¬ f_192 (nI o) I = 0 by rw [d2]; decide) ?_
  obtain ⟨b1, y, w, a, k, t, k1, k2, k3, k4, k5, k6, q1, q2, q3, q4, q5, s1, s2, s3, s4, s5⟩ := hp p hpm
  rw [show (42 : Int32) = nI 42 from rfl, nb_add]
  refine q194 (w := t) (by omega) (by omega) (by omega) hb s5 ?_
  rw [q5, q20 (by omega) (by omega), q21 (by omega) hb]
  refine ⟨rfl, ?_⟩
  obtain ⟨⟨h1, h2, h3, h4, h5, h6, h7, h8, h9, h10⟩, hdd⟩ := h
  have hR : ∀ i, i ≠ 42 + p → am_u I 68 (42 + p) (nI (sb t o b)) 68 i = I 68 i := fun i hi => uu_n hi
  have h8' : ∀ i, i ≠ p → am_u I 8 p (nI (sb t o b)) 8 i = I 8 i := fun i hi => uu_n hi
  refine ⟨⟨PRd_cg h1 rfl rfl (fun _ _ => rfl) (fun _ _ => rfl) (hR 0 (by omega)) (fun i g1 g2 => hR i (by omega)), ?_, PRc_cg h3 rfl (hR 1 (by omega)) (hR 2 (by omega)) (fun i g1 g2 => hR i (by omega)), PRl_cg h4 rfl rfl (hR 3 (by omega)) (hR 4 (by omega)), PRt_cg h5 rfl (fun i g1 g2 => hR i (by omega)), h6, UNr_cg h7 (hR 1 (by omega)) (fun i g1 g2 => hR i (by omega)), h8, MSr_0 h9 rfl rfl rfl rfl, h10⟩, hD _ _ _ I _ _ ⟨fun a ha => ?_, rfl, fun i hi => hR i (by omega), rfl, rfl, Or.inl rfl⟩ hdd⟩
  · refine ⟨m, v, hm, hv, e1, (hR 1 (by omega)).trans e2, e3, fun j hj => ?_⟩
    obtain ⟨z1, z2⟩ := hp j hj
    refine ⟨(hR _ (by omega)).trans z1, ?_⟩
    by_cases e : j = p
    · subst e
      exact ⟨y, w, a, k, sb t o b, k1, k2, k3, k4, k5, sb_lt (n := 8) k6 (by omega) (by decide) hb, q1, q2, q3, q4, uu_e (f := I) (a := 8) (i := j) (v := nI (sb t o b)), (hR _ (by omega)).trans s1, (hR _ (by omega)).trans s2, (hR _ (by omega)).trans s3, (hR _ (by omega)).trans s4, uu_e (f := I) (a := 68) (i := 42 + j) (v := nI (sb t o b))⟩
    · obtain ⟨y, w, a, k, t, k1, k2, k3, k4, k5, k6, q1, q2, q3, q4, q5, s1, s2, s3, s4, s5⟩ := z2
      exact ⟨y, w, a, k, t, k1, k2, k3, k4, k5, k6, q1, q2, q3, q4, (h8' j e).trans q5, (hR _ (by omega)).trans s1, (hR _ (by omega)).trans s2, (hR _ (by omega)).trans s3, (hR _ (by omega)).trans s4, (hR _ (by omega)).trans s5⟩
  · repeat rw [uu_h (by omega)]
theorem o_4 {D : am_P} (hD : FrD D) {N : Nat} {T : Nat → Nat × Nat} {r : Nat → Nat → Option Nat} {I : am_I} {L : am_J} (h : Inv D N T r I L) (x1 x2 x3 : Int32) : op_4 x1 x2 x3 (Inv D) N T r I L := by
  unfold op_4 w_28
  rcases q18 x3 with ⟨a1, a2, _, _⟩ | ⟨a1, a2, b, hb, rfl⟩
  · rw [if_pos a1]
    refine rf1 ?_
    show w_193 _ _ _ _ _
    unfold w_193
    simp only [b182]
    rw [if_pos a2]
    exact tl1 ⟨rfl, inv_r1 hD h⟩
  rw [if_neg (by rw [a1]; decide)]
  obtain ⟨m, v, hm, hv, e1, e2, e3, hp⟩ := h.1.2.1
  obtain ⟨n, ww, hn, hww, f1, f2, f3, hpd⟩ := h.1.1
  rcases qm hm e1 e2 x1 with ⟨c1, c2, _⟩ | ⟨c1, c2, p, hpm, rfl⟩
  · rw [if_pos c1]
    refine rf2 ?_
    show w_193 _ _ _ _ _
    unfold w_193
    simp only [b182]
    rw [if_neg (by rw [a2]; decide)]
    refine am_ifp c2 ?_
    exact tl2 ⟨rfl, inv_r2 hD h⟩
  rw [if_neg (by rw [c1]; decide)]
  rcases qd hn f1 f2 x2 with ⟨d1, d2, _⟩ | ⟨d1, d2, o, hom, rfl⟩
  · rw [if_pos d1]
    refine rf2 ?_
    show w_193 _ _ _ _ _
    unfold w_193
    simp only [b182]
    rw [if_neg (by rw [a2]; decide)]
    refine am_ifn (show ¬ f_192 (nI p) I = 0 by rw [c2]; decide) ?_
    refine am_ifp d2 ?_
    exact tl2 ⟨rfl, inv_r2 hD h⟩
  rw [if_neg (by rw [d1]; decide)]
  have g8 : ¬ (nI p < 0 ∨ 8 ≤ Int32.toNatClampNeg (nI p)) := nb_gd (by omega) (by decide)
  refine ⟨g8, g8, g8, ?_⟩
  rw [nI_clamp (by omega : p < 2 ^ 31)]
  unfold w_24 w_16
  show w_193 _ _ _ _ _
  unfold w_193
  simp only [b182]
  rw [if_neg (by rw [a2]; decide)]
  refine am_ifn (show ¬ f_192 (nI p) I = 0 by rw [c2]; decide) ?_
  refine am_ifn (show ¬ f_187 (nI o) I = 0 by rw [d2]; decide) ?_
  obtain ⟨b1, y, w, a, k, t, k1, k2, k3, k4, k5, k6, q1, q2, q3, q4, q5, s1, s2, s3, s4, s5⟩ := hp p hpm
  rw [show (18 : Int32) = nI 18 from rfl, nb_add]
  refine q194 (w := k) (by omega) (by omega) (by omega) hb s4 ?_
  rw [q4, q20 (by omega) (by omega), q21 (by omega) hb]
  refine ⟨rfl, ?_⟩
  obtain ⟨⟨h1, h2, h3, h4, h5, h6, h7, h8, h9, h10⟩, hdd⟩ := h
  have hR : ∀ i, i ≠ 18 + p → am_u I 68 (18 + p) (nI (sb k o b)) 68 i = I 68 i := fun i hi => uu_n hi
  have h7' : ∀ i, i ≠ p → am_u I 7 p (nI (sb k o b)) 7 i = I 7 i := fun i hi => uu_n hi
  refine ⟨⟨PRd_cg h1 rfl rfl (fun _ _ => rfl) (fun _ _ => rfl) (hR 0 (by omega)) (fun i g1 g2 => hR i (by omega)), ?_, PRc_cg h3 rfl (hR 1 (by omega)) (hR 2 (by omega)) (fun i g1 g2 => hR i (by omega)), PRl_cg h4 rfl rfl (hR 3 (by omega)) (hR 4 (by omega)), PRt_cg h5 rfl (fun i g1 g2 => hR i (by omega)), h6, UNr_0 hm ((hR 1 (by omega)).trans e2) rfl rfl, h8, MSr_0 h9 rfl rfl rfl rfl, h10⟩, hD _ _ _ I _ _ ⟨fun a ha => ?_, rfl, fun i hi => hR i (by omega), rfl, rfl, Or.inl rfl⟩ hdd⟩
  · refine ⟨m, v, hm, hv, e1, (hR 1 (by omega)).trans e2, e3, fun j hj => ?_⟩
    obtain ⟨z1, z2⟩ := hp j hj
    refine ⟨(hR _ (by omega)).trans z1, ?_⟩
    by_cases e : j = p
    · subst e
      exact ⟨y, w, a, sb k o b, t, k1, k2, k3, k4, sb_lt (n := 12) k5 (by omega) (by decide) hb, k6, q1, q2, q3, uu_e (f := I) (a := 7) (i := j) (v := nI (sb k o b)), q5, (hR _ (by omega)).trans s1, (hR _ (by omega)).trans s2, (hR _ (by omega)).trans s3, uu_e (f := I) (a := 68) (i := 18 + j) (v := nI (sb k o b)), (hR _ (by omega)).trans s5⟩
    · obtain ⟨y, w, a, k, t, k1, k2, k3, k4, k5, k6, q1, q2, q3, q4, q5, s1, s2, s3, s4, s5⟩ := z2
      exact ⟨y, w, a, k, t, k1, k2, k3, k4, k5, k6, q1, q2, q3, (h7' j e).trans q4, q5, (hR _ (by omega)).trans s1, (hR _ (by omega)).trans s2, (hR _ (by omega)).trans s3, (hR _ (by omega)).trans s4, (hR _ (by omega)).trans s5⟩
  · repeat rw [uu_h (by omega)]
