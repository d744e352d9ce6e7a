/-! door, prisoner, end, force, forget -/
theorem o_9 {D : am_P} (hD : FrD D) {N : Nat} {T : Nat → Nat × Nat} {r : Nat → Nat → Option Nat} {I : am_I} {L : am_J} (h : Inv D N T r I L) (x1 : Int32) : op_9 x1 (Inv D) N T r I L := by
  unfold op_9 w_34
  obtain ⟨z, hz, e1, e2, hp⟩ := h.1.2.2.2.2.2.1
  rw [e1]
  rcases q13 x1 0 z (by decide) (by omega) with ⟨a, g⟩ | ⟨a, n, _, hn, rfl⟩
  · refine am_ifp a ?_
    show w_202 _ _ _
    unfold w_202
    by_cases h0 : x1 < 0
    · rw [if_pos h0]
      exact ⟨rfl, inv_0 hD h⟩
    · rw [if_neg h0]
      obtain ⟨n, hn, rfl⟩ := nb_of h0
      refine am_ifn ?_ ⟨rfl, inv_0 hD h⟩
      rw [e2, nb_le hn (by omega)]
      exact fun q => g n (by omega) q rfl
  · refine am_ifn (by rw [show f_13 (nI n) 0 (nI z) = 1 from a]; decide) ?_
    show w_202 _ _ _
    unfold w_202
    refine am_ifn (nI_pos (by omega)) ?_
    refine am_ifp (show nI n ≤ I 66 13 by rw [e2, nb_le (by omega) (by omega)]; exact hn) ?_
    refine ⟨rfl, ?_⟩
    obtain ⟨⟨h1, h2, h3, h4, h5, h6, h7, h8, h9, h10⟩, hdd⟩ := h
    refine ⟨⟨h1, h2, h3, h4, h5, ⟨n, by omega, rfl, rfl, fun k hk => hp k (by omega)⟩, h7, h8, h9, h10⟩, hD _ _ _ I _ _ ⟨fun a ha => ?_, rfl, fun _ _ => rfl, rfl, rfl, Or.inr ⟨rfl, rfl, rfl, rfl, rfl, rfl, rfl⟩⟩ hdd⟩
    repeat rw [uu_h (by omega)]
theorem o_31 {D : am_P} (hD : FrD D) {N : Nat} {T : Nat → Nat × Nat} {r : Nat → Nat → Option Nat} {I : am_I} {L : am_J} (h : Inv D N T r I L) : op_31 (Inv D) N T r I L := by
  unfold op_31 w_155 w_282
  obtain ⟨c, m, hc, hm, e1, e2, e3, hp⟩ := h.1.2.2.1
  refine ⟨?_, ?_⟩
  · show I 1 13 = I 68 2
    rw [e1, e2]
  obtain ⟨⟨h1, h2, h3, h4, h5, h6, h7, h8, h9, h10⟩, hdd⟩ := h
  have hR : ∀ i, i ≠ 2 → am_u I 68 2 0 68 i = I 68 i := fun i hi => uu_n hi
  refine ⟨⟨PRd_cg h1 rfl rfl (fun _ _ => rfl) (fun _ _ => rfl) (hR 0 (by omega)) (fun i g1 g2 => hR i (by omega)), PRm_cg h2 rfl rfl (hR 1 (by omega)) (fun i g1 g2 => hR i (by omega)), ⟨0, m, by decide, hm, rfl, rfl, (hR 1 (by omega)).trans e3, fun k hk => absurd hk (by omega)⟩, PRl_cg h4 rfl rfl (hR 3 (by omega)) (hR 4 (by omega)), PRt_cg h5 rfl (fun i g1 g2 => hR i (by omega)), h6, UNr_cg h7 (hR 1 (by omega)) (fun i g1 g2 => hR i (by omega)), h8, h9, h10⟩, hD _ _ _ I _ _ ⟨fun a ha => ?_, rfl, fun i hi => hR i (by omega), rfl, rfl, Or.inr ⟨rfl, rfl, rfl, rfl, rfl, rfl, rfl⟩⟩ hdd⟩
  repeat rw [uu_h (by omega)]
theorem ql {I : am_I} {m : Nat} (hm : m ≤ 6) (e : I 1 15 = nI m) (e2 : I 68 3 = nI m) (x : Int32) : (f_106 x I = 0 ∧ f_182 x.toInt64 0 ((I 68 3).toInt64 - 1) = 0 ∧ ∀ n, n < m → ¬ x = nI n) ∨ (f_106 x I = 1 ∧ f_182 x.toInt64 0 ((I 68 3).toInt64 - 1) = 1 ∧ ∃ n, n < m ∧ x = nI n) := by
  unfold f_106
  rw [e, e2]
  exact qlt x m (by omega)
theorem o_16 {D : am_P} (hD : FrD D) {N : Nat} {T : Nat → Nat × Nat} {r : Nat → Nat → Option Nat} {I : am_I} {L : am_J} (h : Inv D N T r I L) (x1 : Int32) : op_16 x1 (Inv D) N T r I L := by
  unfold op_16 w_105 w_16
  obtain ⟨l, hl, e1, e2, e3, e4⟩ := h.1.2.2.2.1
  have key : (x1 = -1 ∨ ∃ f, f < l ∧ x1 = nI f) → (I 1 16 = I 68 4 ∧ Inv D N T r (am_u (am_u (am_u (am_u (am_u (am_u I 1 16 x1) 0 12 0) 0 10 0) 66 0 0) 68 4 x1) 66 1 0) L) := by
    intro hx
    refine ⟨e3, ?_⟩
    obtain ⟨⟨h1, h2, h3, h4, h5, h6, h7, h8, h9, h10⟩, hdd⟩ := h
    have hR : ∀ i, i ≠ 4 → am_u I 68 4 x1 68 i = I 68 i := fun i hi => uu_n hi
    refine ⟨⟨PRd_cg h1 rfl rfl (fun _ _ => rfl) (fun _ _ => rfl) (hR 0 (by omega)) (fun i g1 g2 => hR i (by omega)), PRm_cg h2 rfl rfl (hR 1 (by omega)) (fun i g1 g2 => hR i (by omega)), PRc_cg h3 rfl (hR 1 (by omega)) (hR 2 (by omega)) (fun i g1 g2 => hR i (by omega)), ⟨l, hl, e1, (hR 3 (by omega)).trans e2, rfl, hx⟩, PRt_cg h5 rfl (fun i g1 g2 => hR i (by omega)), h6, UNr_cg h7 (hR 1 (by omega)) (fun i g1 g2 => hR i (by omega)), h8, MSr_0 h9 rfl rfl rfl rfl, h10⟩, hD _ _ _ I _ _ ⟨fun a ha => ?_, rfl, fun i hi => hR i (by omega), rfl, rfl, Or.inl rfl⟩ hdd⟩
    repeat rw [uu_h (by omega)]
  by_cases c : x1 = -1
  · rw [if_pos c]
    show w_231 _ _ _
    unfold w_231
    refine am_ifn (show ¬ f_232 x1 I = 0 by unfold f_232; rw [if_pos c]; decide) ?_
    exact q188 (at_ := 4) (by decide) (key (Or.inl c))
  · rw [if_neg c]
    rcases ql hl e1 e2 x1 with ⟨a1, a2, _⟩ | ⟨a1, a2, f, hf, rfl⟩
    · rw [if_pos a1]
      refine rf2 ?_
      show w_231 _ _ _
      unfold w_231
      refine am_ifp (show f_232 x1 I = 0 by unfold f_232; rw [if_neg c, if_pos a2]) ?_
      exact tl2 ⟨rfl, inv_r2 hD h⟩
    · rw [if_neg (by rw [a1]; decide)]
      show w_231 _ _ _
      unfold w_231
      refine am_ifn (show ¬ f_232 (nI f) I = 0 by unfold f_232; rw [if_neg c, if_neg (by rw [a2]; decide)]; decide) ?_
      exact q188 (at_ := 4) (by decide) (key (Or.inr ⟨f, hf, rfl⟩))
theorem d182 (x : Int32) : f_182 x.toInt64 0 9 = f_13 x 0 9 := q182 x 0 9
theorem o_0 {D : am_P} (hD : FrD D) {N : Nat} {T : Nat → Nat × Nat} {r : Nat → Nat → Option Nat} {I : am_I} {L : am_J} (h : Inv D N T r I L) (x1 x2 : Int32) : op_0 x1 x2 (Inv D) N T r I L := by
  unfold op_0 w_11 f_12
  rcases q13 x1 0 9 (by decide) (by decide) with ⟨a1, _⟩ | ⟨a1, a, _, ha, rfl⟩
  · have a1 : f_13 x1 0 9 = 0 := a1
    rw [if_pos a1]
    refine rf1 ?_
    show w_185 _ _ _ _
    unfold w_185
    simp only [d182]
    rw [if_pos a1]
    exact tl1 ⟨rfl, inv_r1 hD h⟩
  have a1 : ¬ f_13 (nI a) 0 9 = 0 := by
    rw [show f_13 (nI a) 0 9 = 1 from a1]
    decide
  rw [if_neg a1]
  rcases q13 x2 0 9 (by decide) (by decide) with ⟨b1, _⟩ | ⟨b1, b, _, hb, rfl⟩
  · have b1 : f_13 x2 0 9 = 0 := b1
    rw [if_pos b1]
    refine rf1 ?_
    show w_185 _ _ _ _
    unfold w_185
    simp only [d182]
    rw [if_neg a1, if_pos b1]
    exact tl1 ⟨rfl, inv_r1 hD h⟩
  have b1 : ¬ f_13 (nI b) 0 9 = 0 := by
    rw [show f_13 (nI b) 0 9 = 1 from b1]
    decide
  rw [if_neg b1]
  by_cases hab : nI a = nI b
  · rw [if_pos hab]
    refine rf1 ?_
    show w_185 _ _ _ _
    unfold w_185
    simp only [d182]
    rw [if_neg a1, if_neg b1]
    exact am_ifp hab (tl1 ⟨rfl, inv_r1 hD h⟩)
  rw [if_neg hab]
  have hab' : a ≠ b := fun e => hab (by rw [e])
  obtain ⟨n, w, hn, hw, e1, e2, e3, hp⟩ := h.1.1
  by_cases h12 : n = 12
  · refine am_ifn (show ¬ I 1 2 < 12 by rw [e1, h12]; decide) ?_
    refine rf5 ?_
    show w_185 _ _ _ _
    unfold w_185
    simp only [d182]
    rw [if_neg a1, if_neg b1]
    refine am_ifn hab ?_
    refine am_ifp (show I 68 0 = 12 by rw [e2, h12]; rfl) ?_
    exact tl5 ⟨rfl, inv_r5 hD h⟩
  have hn' : n < 12 := by omega
  refine am_ifp (show I 1 2 < 12 by rw [e1]; exact (nb_lt (b := 12) (by omega) (by decide)).mpr hn') ?_
  unfold w_15 w_16
  refine am_ifp (show I 1 2 < 12 by rw [e1]; exact (nb_lt (b := 12) (by omega) (by decide)).mpr hn') ?_
  have g12 : ¬ (I 1 2 < 0 ∨ 12 ≤ Int32.toNatClampNeg (I 1 2)) := nb_gdx e1 hn' (by decide)
  refine ⟨g12, g12, ?_⟩
  show w_185 _ _ _ _
  unfold w_185
  simp only [d182]
  rw [if_neg a1, if_neg b1]
  refine am_ifn hab ?_
  have c12 : Int32.toNatClampNeg (I 1 2) = n := nb_cl e1 (by omega)
  rw [c12, e1]
  refine am_ifn (show ¬ I 68 0 = 12 by rw [e2]; exact fun q => h12 ((nb_inj (b := 12) (by omega) (by decide)).mp q)) ?_
  have x0 : (58 : Int32) + 3 * I 68 0 = nI (58 + 3 * n) := by
    rw [e2, show (58 : Int32) = nI 58 from rfl, show (3 : Int32) = nI 3 from rfl, nb_mul, nb_add]
  have x1' : (58 : Int32) + 3 * I 68 0 + 1 = nI (58 + 3 * n + 1) := by
    rw [x0, show (1 : Int32) = nI 1 from rfl, nb_add]
  have x2' : (58 : Int32) + 3 * I 68 0 + 2 = nI (58 + 3 * n + 2) := by
    rw [x0, show (2 : Int32) = nI 2 from rfl, nb_add]
  show ¬ ((58 : Int32) + 3 * I 68 0 < 0 ∨ 5510 ≤ Int32.toNatClampNeg (58 + 3 * I 68 0)) ∧ ¬ ((58 : Int32) + 3 * I 68 0 + 1 < 0 ∨ 5510 ≤ Int32.toNatClampNeg (58 + 3 * I 68 0 + 1)) ∧ ¬ ((58 : Int32) + 3 * I 68 0 + 2 < 0 ∨ 5510 ≤ Int32.toNatClampNeg (58 + 3 * I 68 0 + 2)) ∧ _
  refine ⟨nb_gdx x0 (by omega) (by decide), nb_gdx x1' (by omega) (by decide), nb_gdx x2' (by omega) (by decide), ?_⟩
  refine tl0 (show 0 ≤ I 68 0 by rw [e2]; exact nI_pos' (by omega)) ?_
  refine ⟨e2.symm, ?_⟩
  have k0 : Int32.toNatClampNeg ((58 : Int32) + 3 * I 68 0) = 58 + 3 * n := nb_cl x0 (by omega)
  have k1 : Int32.toNatClampNeg ((58 : Int32) + 3 * I 68 0 + 1) = 58 + 3 * n + 1 := nb_cl x1' (by omega)
  have k2 : Int32.toNatClampNeg ((58 : Int32) + 3 * I 68 0 + 2) = 58 + 3 * n + 2 := nb_cl x2' (by omega)
  suffices hs : ∀ p q s : Nat, p = 58 + 3 * n → q = 58 + 3 * n + 1 → s = 58 + 3 * n + 2 → Inv D N T r (am_u (am_u (am_u (am_u (am_u (am_u (am_u (am_u (am_u (am_u (am_u I 2 n (nI a)) 3 n (nI b)) 1 2 (nI n + 1)) 0 12 0) 0 10 0) 66 0 0) 68 p (nI a)) 68 q (nI b)) 68 s 0) 68 0 ((am_u (am_u (am_u I 68 p (nI a)) 68 q (nI b)) 68 s 0) 68 0 + 1)) 66 1 0) L from hs _ _ _ k0 k1 k2
  intro p q s hp' hq' hs'
  subst hp' hq' hs'
  have R0 : am_u (am_u (am_u I 68 (58 + 3 * n) (nI a)) 68 (58 + 3 * n + 1) (nI b)) 68 (58 + 3 * n + 2) 0 68 0 = I 68 0 := by
    rw [uu_n (by omega), uu_n (by omega), uu_n (by omega)]
  rw [R0]
  obtain ⟨⟨h1, h2, h3, h4, h5, h6, h7, h8, h9, h10⟩, hdd⟩ := h
  have hR : ∀ i, i ≠ 58 + 3 * n → i ≠ 58 + 3 * n + 1 → i ≠ 58 + 3 * n + 2 → i ≠ 0 → am_u (am_u (am_u (am_u I 68 (58 + 3 * n) (nI a)) 68 (58 + 3 * n + 1) (nI b)) 68 (58 + 3 * n + 2) 0) 68 0 (I 68 0 + 1) 68 i = I 68 i := fun i g1 g2 g3 g4 => by rw [uu_n g4, uu_n g3, uu_n g2, uu_n g1]
  refine ⟨⟨?_, PRm_cg h2 rfl rfl (hR 1 (by omega) (by omega) (by omega) (by omega)) (fun i g1 g2 => hR i (by omega) (by omega) (by omega) (by omega)), PRc_cg h3 rfl (hR 1 (by omega) (by omega) (by omega) (by omega)) (hR 2 (by omega) (by omega) (by omega) (by omega)) (fun i g1 g2 => hR i (by omega) (by omega) (by omega) (by omega)), PRl_cg h4 rfl rfl (hR 3 (by omega) (by omega) (by omega) (by omega)) (hR 4 (by omega) (by omega) (by omega) (by omega)), PRt_cg h5 rfl (fun i g1 g2 => hR i (by omega) (by omega) (by omega) (by omega)), h6, UNr_cg h7 (hR 1 (by omega) (by omega) (by omega) (by omega)) (fun i g1 g2 => hR i (by omega) (by omega) (by omega) (by omega)), h8, MSr_0 h9 rfl rfl rfl rfl, h10⟩, hD _ _ _ I _ _ ⟨fun a ha => ?_, rfl, fun i hi => hR i (by omega) (by omega) (by omega) (by omega), rfl, rfl, Or.inl rfl⟩ hdd⟩
  · have s1 : nI n + 1 = nI (n + 1) := nb_add n 1
    refine ⟨n + 1, w, by omega, Nat.lt_of_lt_of_le hw (Nat.pow_le_pow_right (by decide) (by omega)), s1, (by show I 68 0 + 1 = nI (n + 1); rw [e2]; exact s1), e3, fun j hj => ?_⟩
    by_cases e : j = n
    · subst e
      refine ⟨?_, a, b, by omega, by omega, hab', uu_e (f := I) (a := 2) (i := j) (v := nI a), uu_e (f := I) (a := 3) (i := j) (v := nI b), ?_, ?_⟩
      · rw [bi_hi hw (by omega)]
        show am_u (am_u (am_u (am_u I 68 (58 + 3 * j) (nI a)) 68 (58 + 3 * j + 1) (nI b)) 68 (58 + 3 * j + 2) 0) 68 0 (I 68 0 + 1) 68 (60 + 3 * j) = 0
        rw [uu_n (by omega), show 60 + 3 * j = 58 + 3 * j + 2 by omega, uu_e]
      · show am_u (am_u (am_u (am_u I 68 (58 + 3 * j) (nI a)) 68 (58 + 3 * j + 1) (nI b)) 68 (58 + 3 * j + 2) 0) 68 0 (I 68 0 + 1) 68 (58 + 3 * j) = nI a
        rw [uu_n (by omega), uu_n (by omega), uu_n (by omega), uu_e]
      · show am_u (am_u (am_u (am_u I 68 (58 + 3 * j) (nI a)) 68 (58 + 3 * j + 1) (nI b)) 68 (58 + 3 * j + 2) 0) 68 0 (I 68 0 + 1) 68 (59 + 3 * j) = nI b
        rw [uu_n (by omega), uu_n (by omega), show 59 + 3 * j = 58 + 3 * j + 1 by omega, uu_e]
    · obtain ⟨q1, a', c, ha', hc, hac, q2, q3, q4, q5⟩ := hp j (by omega)
      exact ⟨(hR _ (by omega) (by omega) (by omega) (by omega)).trans q1, a', c, ha', hc, hac, (show am_u I 2 n (nI a) 2 j = I 2 j from uu_n e).trans q2, (show am_u I 3 n (nI b) 3 j = I 3 j from uu_n e).trans q3, (hR _ (by omega) (by omega) (by omega) (by omega)).trans q4, (hR _ (by omega) (by omega) (by omega) (by omega)).trans q5⟩
  · repeat rw [uu_h (by omega)]
