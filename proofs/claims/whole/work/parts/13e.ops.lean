/-! prisoner, terms: the calls -/
theorem o_2 {D : am_P} (hD : FrD D) {N : Nat} {T : Nat → Nat × Nat} {r : Nat → Nat → Option Nat} {I : am_I} {L : am_J} (h : Inv D N T r I L) (x1 x2 x3 : Int32) : op_2 x1 x2 x3 (Inv D) N T r I L := by
  unfold op_2 w_22
  have bad : ∀ J : am_I, (f_13 x1 1 99 = 0 ∨ f_13 x2 0 9 = 0 ∨ f_13 x3 1 9 = 0) → ∀ (K : Int32 → am_I → Prop) (A : Prop), K (-1) J → (if f_13 x1 1 99 = 0 then K (-1) J else if f_13 x2 0 9 = 0 then K (-1) J else if f_13 x3 1 9 = 0 then K (-1) J else A) := by
    intro J hh K A hk
    split
    · exact hk
    · split
      · exact hk
      · split
        · exact hk
        · rcases hh with q | q | q <;> contradiction
  rcases q23 x1 x2 x3 with ⟨a1, a2⟩ | ⟨a1, b1, b2, b3, y, w, a, hy1, hy2, hw, ha1, ha2, rfl, rfl, rfl⟩
  · rw [if_pos a1]
    refine rf1 ?_
    show w_189 _ _ _ _ _
    unfold w_189 w_190
    simp only [c182, d182, e182]
    exact bad _ a2 (fun q I2 => w_184 q I2 _) _ (st_m1 ⟨rfl, inv_r1 hD h⟩)
  rw [if_neg (by rw [a1]; decide)]
  have n1 : ¬ f_13 (nI y) 1 99 = 0 := by rw [b1]; decide
  have n2 : ¬ f_13 (nI w) 0 9 = 0 := by rw [b2]; decide
  have n3 : ¬ f_13 (nI a) 1 9 = 0 := by rw [b3]; decide
  obtain ⟨m, v, hm, hv, e1, e2, e3, hp⟩ := h.1.2.1
  by_cases h8 : m = 8
  · refine am_ifn (show ¬ I 1 10 < 8 by rw [e1, h8]; decide) ?_
    refine rf5 ?_
    show w_189 _ _ _ _ _
    unfold w_189 w_190
    simp only [c182, d182, e182]
    rw [if_neg n1, if_neg n2, if_neg n3]
    refine am_ifp (show I 68 1 = 8 by rw [e2, h8]; rfl) ?_
    exact st_m5 ⟨rfl, inv_r5 hD h⟩
  have hm' : m < 8 := by omega
  refine am_ifp (show I 1 10 < 8 by rw [e1]; exact (nb_lt (b := 8) (by omega) (by decide)).mpr hm') ?_
  unfold w_24 w_25 w_16
  refine am_ifp (show I 1 10 < 8 by rw [e1]; exact (nb_lt (b := 8) (by omega) (by decide)).mpr hm') ?_
  have g8 : ¬ (I 1 10 < 0 ∨ 8 ≤ Int32.toNatClampNeg (I 1 10)) := nb_gdx e1 hm' (by decide)
  refine ⟨g8, g8, g8, g8, g8, ?_⟩
  show w_189 _ _ _ _ _
  unfold w_189 w_190
  simp only [c182, d182, e182]
  rw [if_neg n1, if_neg n2, if_neg n3]
  refine am_ifn (show ¬ I 68 1 = 8 by rw [e2]; exact fun q => h8 ((nb_inj (b := 8) (by omega) (by decide)).mp q)) ?_
  have x : ∀ c : Nat, nI c + I 68 1 = nI (c + m) := fun c => by rw [e2, nb_add]
  have gx : ∀ c : Nat, c ≤ 50 → ¬ (nI c + I 68 1 < 0 ∨ 5510 ≤ Int32.toNatClampNeg (nI c + I 68 1)) := fun c hc => nb_gdx (x c) (by omega) (by decide)
  refine ⟨gx 26 (by decide), gx 34 (by decide), gx 10 (by decide), gx 18 (by decide), gx 42 (by decide), gx 50 (by decide), ?_⟩
  refine st_0 (show 0 ≤ I 68 1 by rw [e2]; exact nI_pos' (by omega)) ?_
  refine ⟨(show I 1 10 = I 68 1 by rw [e1, e2]), ?_⟩
  have kx : ∀ c : Nat, c ≤ 50 → Int32.toNatClampNeg (nI c + I 68 1) = c + m := fun c hc => nb_cl (x c) (by omega)
  have k26 : Int32.toNatClampNeg (26 + I 68 1) = 26 + m := kx 26 (by decide)
  have k34 : Int32.toNatClampNeg (34 + I 68 1) = 34 + m := kx 34 (by decide)
  have k10 : Int32.toNatClampNeg (10 + I 68 1) = 10 + m := kx 10 (by decide)
  have k18 : Int32.toNatClampNeg (18 + I 68 1) = 18 + m := kx 18 (by decide)
  have k42 : Int32.toNatClampNeg (42 + I 68 1) = 42 + m := kx 42 (by decide)
  have k50 : Int32.toNatClampNeg (50 + I 68 1) = 50 + m := kx 50 (by decide)
  have km : Int32.toNatClampNeg (I 1 10) = m := nb_cl e1 (by omega)
  suffices hs : ∀ p0 p1 p2 p3 p4 p5 p6 : Nat, p0 = m → p1 = 26 + m → p2 = 34 + m → p3 = 10 + m → p4 = 18 + m → p5 = 42 + m → p6 = 50 + m → Inv D N T r (am_u (am_u (am_u (am_u (am_u (am_u (am_u (am_u (am_u (am_u (am_u (am_u (am_u (am_u (am_u (am_u (am_u (am_u (am_u (am_u I 29 0 0) 4 p0 (nI y)) 5 p0 (nI w)) 6 p0 (nI a)) 7 p0 0) 8 p0 0) 1 9 (f_21 (I 1 9) (I 1 10) 0)) 1 10 (I 1 10 + 1)) 0 12 0) 0 10 0) 66 0 0) 68 p1 (nI y)) 68 p2 (nI w)) 68 p3 (nI a)) 68 p4 0) 68 p5 0) 68 p6 0) 68 1 ((am_u (am_u (am_u (am_u (am_u (am_u I 68 p1 (nI y)) 68 p2 (nI w)) 68 p3 (nI a)) 68 p4 0) 68 p5 0) 68 p6 0) 68 1 + 1)) 66 8 0) 66 1 0) L from hs _ _ _ _ _ _ _ km k26 k34 k10 k18 k42 k50
  intro p0 p1 p2 p3 p4 p5 p6 g0 g1 g2 g3 g4 g5 g6
  rw [g0]
  subst g1 g2 g3 g4 g5 g6
  have R1 : (am_u (am_u (am_u (am_u (am_u (am_u I 68 (26 + m) (nI y)) 68 (34 + m) (nI w)) 68 (10 + m) (nI a)) 68 (18 + m) 0) 68 (42 + m) 0) 68 (50 + m) 0) 68 1 = nI m := by
    rw [uu_n (by omega), uu_n (by omega), uu_n (by omega), uu_n (by omega), uu_n (by omega), uu_n (by omega), e2]
  rw [R1]
  have s1 : nI m + 1 = nI (m + 1) := nb_add m 1
  have hR : ∀ i, am_u (am_u (am_u (am_u (am_u (am_u (am_u (am_u (am_u (am_u (am_u (am_u (am_u (am_u (am_u (am_u (am_u (am_u (am_u (am_u I 29 0 0) 4 m (nI y)) 5 m (nI w)) 6 m (nI a)) 7 m 0) 8 m 0) 1 9 (f_21 (I 1 9) (I 1 10) 0)) 1 10 (I 1 10 + 1)) 0 12 0) 0 10 0) 66 0 0) 68 (26 + m) (nI y)) 68 (34 + m) (nI w)) 68 (10 + m) (nI a)) 68 (18 + m) 0) 68 (42 + m) 0) 68 (50 + m) 0) 68 1 (nI m + 1)) 66 8 0) 66 1 0 68 i = am_u (am_u (am_u (am_u (am_u (am_u (am_u I 68 (26 + m) (nI y)) 68 (34 + m) (nI w)) 68 (10 + m) (nI a)) 68 (18 + m) 0) 68 (42 + m) 0) 68 (50 + m) 0) 68 1 (nI m + 1) 68 i := fun i => rfl
  refine inv_man hD h hm' hv e1 e3 hy1 hy2 hw ha2 ?_ ?_ ?_ ?_ (fun i hi => ?_) (fun i hi => ?_) (fun i hi => ?_) (fun i hi => ?_) (fun i hi => ?_) ?_ ?_ ?_ ?_ ?_ ?_ ?_ ?_ ?_ ?_ ?_ ?_ ?_ rfl rfl rfl h.1.2.2.2.2.2.1 (MSr_0 h.1.2.2.2.2.2.2.2.2.1 rfl rfl rfl rfl) rfl rfl rfl rfl rfl rfl
  · intro c c1 c4 c5 c6 c7 c8 c0 _ c29 c66 c68
    rw [uu_h c66, uu_h c66, uu_h c68, uu_h c68, uu_h c68, uu_h c68, uu_h c68, uu_h c68, uu_h c68, uu_h c66, uu_h c0, uu_h c0, uu_h c1, uu_h c1, uu_h c8, uu_h c7, uu_h c6, uu_h c5, uu_h c4, uu_h c29]
  · intro i i9 i10
    show am_u (am_u I 1 9 (f_21 (I 1 9) (I 1 10) 0)) 1 10 (I 1 10 + 1) 1 i = I 1 i
    rw [uu_n i10, uu_n i9]
  · show f_21 (I 1 9) (I 1 10) 0 = nI (sb v m 0)
    rw [e1, e3]
    exact q21 (b := 0) (by omega) (by decide)
  · show I 1 10 + 1 = nI (m + 1)
    rw [e1, s1]
  · exact (show am_u I 4 m (nI y) 4 i = I 4 i from uu_n hi)
  · exact (show am_u I 5 m (nI w) 5 i = I 5 i from uu_n hi)
  · exact (show am_u I 6 m (nI a) 6 i = I 6 i from uu_n hi)
  · exact (show am_u I 7 m 0 7 i = I 7 i from uu_n hi)
  · exact (show am_u I 8 m 0 8 i = I 8 i from uu_n hi)
  · exact uu_e (f := I) (a := 4) (i := m) (v := nI y)
  · exact uu_e (f := I) (a := 5) (i := m) (v := nI w)
  · exact uu_e (f := I) (a := 6) (i := m) (v := nI a)
  · exact uu_e (f := I) (a := 7) (i := m) (v := 0)
  · exact uu_e (f := I) (a := 8) (i := m) (v := 0)
  · intro i i1 i2 i3 i4 i5 i6 i7
    rw [hR, uu_n i7, uu_n i6, uu_n i5, uu_n i4, uu_n i3, uu_n i2, uu_n i1]
  · rw [hR, uu_e, s1]
  · rw [hR, uu_n (by omega), uu_n (by omega), uu_n (by omega), uu_n (by omega), uu_n (by omega), uu_n (by omega), uu_e]
  · rw [hR, uu_n (by omega), uu_n (by omega), uu_n (by omega), uu_n (by omega), uu_n (by omega), uu_e]
  · rw [hR, uu_n (by omega), uu_n (by omega), uu_n (by omega), uu_n (by omega), uu_e]
  · rw [hR, uu_n (by omega), uu_n (by omega), uu_n (by omega), uu_e]
  · rw [hR, uu_n (by omega), uu_n (by omega), uu_e]
  · rw [hR, uu_n (by omega), uu_e]
