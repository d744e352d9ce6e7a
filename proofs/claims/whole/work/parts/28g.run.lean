/-! orders: giving -/
theorem act1 {V : am_I} {u : Nat} (h : IV V) (hu : V 29 0 = nI u) (hu6 : u ≤ 16) (x1 x2 x3 : Int32) : ∃ V' u' q, u' ≤ 16 ∧ IV V' ∧ (q = -2 ∨ q = -3 ∨ 0 ≤ q) ∧ V' 29 0 = nI u' ∧ ACT V V' u u' q (w_99 x1 x2 x3) (w_259 x1 x2 x3) := by
  obtain ⟨L, h⟩ := h
  have h0 := h
  obtain ⟨m, v, hm, hv, e1, e2, e3, hp⟩ := id h.1.2.1
  obtain ⟨n, w, hn, hw, f1, f2, f3, hpd⟩ := id h.1.1
  obtain ⟨u2, m', hu', hm', w1, eu, eu2, old⟩ := id h.1.2.2.2.2.2.2.1
  have uu : u2 = u := (nb_inj (by omega) (by omega)).mp (eu.symm.trans hu)
  rw [uu] at eu eu2
  have f27 : ∀ y I, CNv I V u → f_27 y I = f_27 y V := fun y I cn => by unfold f_27; rw [cn.1 1 (by decide) (by decide)]
  have f19 : ∀ I, CNv I V u → f_19 x1 I = f_19 x1 V := fun I cn => by unfold f_19; rw [cn.1 1 (by decide) (by decide)]
  have f192 : ∀ y I, RNv I V u → f_192 y I = f_192 y V := fun y I rn => by unfold f_192; rw [rn.1]
  have f187 : ∀ I, RNv I V u → f_187 x1 I = f_187 x1 V := fun I rn => by unfold f_187; rw [rn.1]
  rcases qd hn f1 f2 x1 with ⟨d1, d2, _⟩ | ⟨d1, d2, d, hd, ed⟩
  · refine ⟨V, u, -2, hu6, ⟨L, h0⟩, Or.inl rfl, hu, VF_r, fun T r I K cn k => ?_, fun G K rn k => ?_⟩
    · unfold w_99
      exact am_ifp ((f19 I cn).trans d1) (k I cn (fun _ _ _ => rfl))
    · unfold w_259
      exact am_ifp ((f187 G rn).trans d2) (k G rn (fun _ _ _ _ _ => rfl) (fun _ _ => rfl) (fun _ _ => rfl))
  have m1 : ∀ I, CNv I V u → ¬ f_19 x1 I = 0 := fun I cn => by rw [f19 I cn, d1]; decide
  have n1 : ∀ I, RNv I V u → ¬ f_187 x1 I = 0 := fun I rn => by rw [f187 I rn, d2]; decide
  rcases qm hm e1 e2 x2 with ⟨c1, c2, _⟩ | ⟨c1, c2, p, hpm, ep⟩
  · refine ⟨V, u, -2, hu6, ⟨L, h0⟩, Or.inl rfl, hu, VF_r, fun T r I K cn k => ?_, fun G K rn k => ?_⟩
    · unfold w_99
      exact am_ifn (m1 I cn) (am_ifp ((f27 x2 I cn).trans c1) (k I cn (fun _ _ _ => rfl)))
    · unfold w_259
      exact am_ifn (n1 G rn) (am_ifp ((f192 x2 G rn).trans c2) (k G rn (fun _ _ _ _ _ => rfl) (fun _ _ => rfl) (fun _ _ => rfl)))
  have m2 : ∀ I, CNv I V u → ¬ f_27 x2 I = 0 := fun I cn => by rw [f27 x2 I cn, c1]; decide
  have n2 : ∀ I, RNv I V u → ¬ f_192 x2 I = 0 := fun I rn => by rw [f192 x2 I rn, c2]; decide
  rcases qm hm e1 e2 x3 with ⟨b1', b2, _⟩ | ⟨b1', b2, q, hqm, eq⟩
  · refine ⟨V, u, -2, hu6, ⟨L, h0⟩, Or.inl rfl, hu, VF_r, fun T r I K cn k => ?_, fun G K rn k => ?_⟩
    · unfold w_99
      exact am_ifn (m1 I cn) (am_ifn (m2 I cn) (am_ifp ((f27 x3 I cn).trans b1') (k I cn (fun _ _ _ => rfl))))
    · unfold w_259
      exact am_ifn (n1 G rn) (am_ifn (n2 G rn) (am_ifp ((f192 x3 G rn).trans b2) (k G rn (fun _ _ _ _ _ => rfl) (fun _ _ => rfl) (fun _ _ => rfl))))
  have m3 : ∀ I, CNv I V u → ¬ f_27 x3 I = 0 := fun I cn => by rw [f27 x3 I cn, b1']; decide
  have n3 : ∀ I, RNv I V u → ¬ f_192 x3 I = 0 := fun I rn => by rw [f192 x3 I rn, b2]; decide
  by_cases pq : x2 = x3
  · refine ⟨V, u, -3, hu6, ⟨L, h0⟩, Or.inr (Or.inl rfl), hu, VF_r, fun T r I K cn k => ?_, fun G K rn k => ?_⟩
    · unfold w_99
      exact am_ifn (m1 I cn) (am_ifn (m2 I cn) (am_ifn (m3 I cn) (am_ifp pq (k I cn (fun _ _ _ => rfl)))))
    · unfold w_259
      exact am_ifn (n1 G rn) (am_ifn (n2 G rn) (am_ifn (n3 G rn) (am_ifp pq (k G rn (fun _ _ _ _ _ => rfl) (fun _ _ => rfl) (fun _ _ => rfl)))))
  subst ed ep eq
  have hpq : p ≠ q := fun z => pq (by rw [z])
  have kp : Int32.toNatClampNeg (nI p) = p := nI_clamp (by omega)
  have kq : Int32.toNatClampNeg (nI q) = q := nI_clamp (by omega)
  have gp : ¬ (nI p < 0 ∨ 8 ≤ p) := fun q => q.elim (fun z => nI_pos (by omega) z) (fun z => by omega)
  have gq : ¬ (nI q < 0 ∨ 8 ≤ q) := fun q => q.elim (fun z => nI_pos (by omega) z) (fun z => by omega)
  obtain ⟨_, yp, wp, xp, kf, tf, _, _, _, hxp, hkf, htf, _, _, px, pk, pt, _, _, rx, rk, rt⟩ := hp p hpm
  obtain ⟨_, yq, wq, xq, kt, tq, _, _, _, hxq, hkt, htq, _, _, qx, qk, qt, _, _, sx, sk, st⟩ := hp q hqm
  obtain ⟨g18p, k18p⟩ := ixa (a := 18) (n := p) (by omega)
  obtain ⟨g18q, k18q⟩ := ixa (a := 18) (n := q) (by omega)
  obtain ⟨g10p, k10p⟩ := ixa (a := 10) (n := p) (by omega)
  obtain ⟨g10q, k10q⟩ := ixa (a := 10) (n := q) (by omega)
  obtain ⟨g42p, k42p⟩ := ixa (a := 42) (n := p) (by omega)
  have k18p : Int32.toNatClampNeg (18 + nI p) = 18 + p := k18p
  have k18q : Int32.toNatClampNeg (18 + nI q) = 18 + q := k18q
  have k10p : Int32.toNatClampNeg (10 + nI p) = 10 + p := k10p
  have k10q : Int32.toNatClampNeg (10 + nI q) = 10 + q := k10q
  have k42p : Int32.toNatClampNeg (42 + nI p) = 42 + p := k42p
  have mdl : ∀ (J : am_I) (K : Int32 → am_I → Prop), RNv J V u → ((bi kf d = 0 ∨ ¬ xp = xq ∨ bi tf q = 0) → K (-3) J) → (bi kf d = 1 → xp = xq → bi tf q = 1 → w_255 1 J (fun I2 => ¬ ((18 + nI p) < 0 ∨ 5510 ≤ Int32.toNatClampNeg (18 + nI p)) ∧ ¬ ((18 + nI p) < 0 ∨ 5510 ≤ Int32.toNatClampNeg (18 + nI p)) ∧ ¬ ((18 + nI q) < 0 ∨ 5510 ≤ Int32.toNatClampNeg (18 + nI q)) ∧ ¬ ((18 + nI q) < 0 ∨ 5510 ≤ Int32.toNatClampNeg (18 + nI q)) ∧ K 0 (am_u (am_u I2 68 (Int32.toNatClampNeg (18 + nI p)) ((I2 68 (Int32.toNatClampNeg (18 + nI p))) - (1 <<< (nI d &&& 31)))) 68 (Int32.toNatClampNeg (18 + nI q)) (((am_u I2 68 (Int32.toNatClampNeg (18 + nI p)) ((I2 68 (Int32.toNatClampNeg (18 + nI p))) - (1 <<< (nI d &&& 31)))) 68 (Int32.toNatClampNeg (18 + nI q))) ||| (1 <<< (nI d &&& 31)))))) → w_259 (nI d) (nI p) (nI q) J K := by
    intro J K rn hr hs
    have hJ := rn.1
    unfold w_259
    refine am_ifn (n1 J rn) (am_ifn (n2 J rn) (am_ifn (n3 J rn) (am_ifn pq ⟨g18p, ?_⟩)))
    rw [k18p, hJ]
    rcases f248i (d := d) rk hkf (by omega) with ⟨z1, z2⟩ | ⟨z1, z2⟩
    · rw [if_pos z1]
      exact hr (Or.inl z2)
    rw [if_neg (by rw [z1]; decide)]
    refine ⟨g10p, g10q, ?_⟩
    rw [k10p, k10q, rx, sx]
    by_cases cx : xp = xq
    · rw [if_pos (by rw [cx])]
      unfold w_249
      rw [k42p, hJ]
      refine ⟨(show ¬ ((42 : Int32) + nI p < 0 ∨ 5510 ≤ 42 + p) by rw [← k42p]; exact g42p), ?_⟩
      rcases f248i (d := q) rt (by omega) (by omega) with ⟨y1, y2⟩ | ⟨y1, y2⟩
      · rw [y1]
        exact ⟨Or.inl rfl, am_ifp rfl (hr (Or.inr (Or.inr y2)))⟩
      · rw [y1]
        refine ⟨Or.inr rfl, am_ifn (by decide) ?_⟩
        have hs' := hs z2 cx y2
        rw [k18p] at hs'
        exact hs'
    · rw [if_neg (fun z => cx ((nb_inj (by omega) (by omega)).mp z))]
      exact hr (Or.inr (Or.inl cx))
  have cdl : ∀ T r (I : am_I) (K : Int32 → am_I → Prop), CNv I V u → ((bi kf d = 0 ∨ ¬ xp = xq ∨ bi tf q = 0) → K (-3) I) → (bi kf d = 1 → xp = xq → bi tf q = 1 → ∀ J t' s', t' ≤ 15 → t' + s' = u → s' ≤ 1 → (s' = 0 ∨ u = 16) → kep I J t' s' 1 (nI p) (nI kf) (nI q) (nI kt) → K 0 (am_u (am_u J 7 p (nI (sb kf d 0))) 7 q (nI (sb kt d 1)))) → w_99 (nI d) (nI p) (nI q) T r I K := by
    intro T r I K cn hr hs
    have i6 := cn.1 6 (by decide) (by decide)
    have i7 := cn.1 7 (by decide) (by decide)
    have i8 := cn.1 8 (by decide) (by decide)
    unfold w_99
    refine am_ifn (m1 I cn) (am_ifn (m2 I cn) (am_ifn (m3 I cn) (am_ifn pq ?_)))
    rw [kp, kq]
    refine ⟨gp, gq, ?_⟩
    rw [i6, i7, i8, px, qx]
    by_cases cx : xp = xq
    · rw [if_pos (by rw [cx])]
      refine ⟨gp, ?_⟩
      rw [f20i pk hkf (by omega)]
      have b2' := bi_lt kf d
      rcases (by omega : bi kf d = 0 ∨ bi kf d = 1) with z | z
      · rw [if_pos (by rw [z]; rfl)]
        exact hr (Or.inl z)
      rw [if_neg (by rw [z]; decide)]
      refine ⟨gp, ?_⟩
      rw [f20i pt (by omega) (by omega)]
      have b3' := bi_lt tf q
      rcases (by omega : bi tf q = 0 ∨ bi tf q = 1) with y | y
      · rw [if_pos (by rw [y]; rfl)]
        exact hr (Or.inr (Or.inr y))
      rw [if_neg (by rw [y]; decide)]
      refine ⟨gp, gq, ?_⟩
      rw [pk, qk]
      refine q97 hu6 cn.2.1 (fun C t s g1 g2 g3 g4 kc => ⟨gp, gp, gq, gq, ?_⟩)
      have c7 : C 7 = V 7 := (kc.1 7 (by decide)).trans i7
      have k := hs z cx y C t s g1 g2 g3 g4 kc
      rw [uu_n (show q ≠ p from Ne.symm hpq), c7, pk, qk, show f_21 (nI kf) (nI d) 0 = nI (sb kf d 0) from q21 (by omega) (by decide), show f_21 (nI kt) (nI d) 1 = nI (sb kt d 1) from q21 (by omega) (by decide)]
      exact k
    · rw [if_neg (fun z => cx ((nb_inj (by omega) (by omega)).mp z))]
      exact hr (Or.inr (Or.inl cx))
  by_cases bad : bi kf d = 0 ∨ ¬ xp = xq ∨ bi tf q = 0
  · refine ⟨V, u, -3, hu6, ⟨L, h0⟩, Or.inr (Or.inl rfl), hu, VF_r, fun T r I K cn k => ?_, fun G K rn k => ?_⟩
    · exact cdl T r I K cn (fun _ => k I cn (fun _ _ _ => rfl)) (fun a1 a2 a3 => absurd bad (by omega))
    · exact mdl G K rn (fun _ => k G rn (fun _ _ _ _ _ => rfl) (fun _ _ => rfl) (fun _ _ => rfl)) (fun a1 a2 a3 => absurd bad (by omega))
  · have z : bi kf d = 1 := by
      have := bi_lt kf d
      omega
    have y : bi tf q = 1 := by
      have := bi_lt tf q
      omega
    have cx : xp = xq := Classical.byContradiction (fun q => bad (Or.inr (Or.inl q)))
    obtain ⟨t, s, g1, g2, g3, g4⟩ := ts_of hu6
    have kc : kep V (kpC V t s 1 (nI p) (nI kf) (nI q) (nI kt)) t s 1 (nI p) (nI kf) (nI q) (nI kt) := kpC_k
    obtain ⟨C, eC⟩ : ∃ C, C = kpC V t s 1 (nI p) (nI kf) (nI q) (nI kt) := ⟨_, rfl⟩
    rw [← eC] at kc
    obtain ⟨C', hC'⟩ : ∃ C', C' = am_u (am_u C 7 p (nI (sb kf d 0))) 7 q (nI (sb kt d 1)) := ⟨_, rfl⟩
    have Co : ∀ c, c ≠ 7 → C' c = C c := fun c hc => by rw [hC', uu_h hc, uu_h hc]
    have rm : rmb (am_u (am_u (am_u C' 0 12 0) 0 10 0) 66 0 0) (kpR (am_u (am_u (am_u C' 0 12 0) 0 10 0) 66 0 0) t s 1) t s 1 := kpR_k g1
    obtain ⟨M, eM⟩ : ∃ M, M = kpR (am_u (am_u (am_u C' 0 12 0) 0 10 0) 66 0 0) t s 1 := ⟨_, rfl⟩
    rw [← eM] at rm
    have M68 : M 68 = V 68 := by rw [rm.1 68 (by decide) (by decide) (by decide), uu_h (by decide), uu_h (by decide), uu_h (by decide), Co 68 (by decide), kc.1 68 (by decide)]
    obtain ⟨G, hG⟩ : ∃ G, G = am_u (am_u M 68 (18 + p) (nI (sb kf d 0))) 68 (18 + q) (nI (sb kt d 1)) := ⟨_, rfl⟩
    have Go : ∀ c, c ≠ 68 → G c = M c := fun c hc => by rw [hG, uu_h hc, uu_h hc]
    have Gq : G 68 (18 + q) = nI (sb kt d 1) := by rw [hG, uu_e]
    have Gp : G 68 (18 + p) = nI (sb kf d 0) := by rw [hG, uu_n (by omega), uu_e]
    have G68 : ∀ i, i ≠ 18 + p → i ≠ 18 + q → G 68 i = V 68 i := fun i h1 h2 => by rw [hG, uu_n h2, uu_n h1, M68]
    have C7q : C' 7 q = nI (sb kt d 1) := by rw [hC', uu_e]
    have C7p : C' 7 p = nI (sb kf d 0) := by rw [hC', uu_n hpq, uu_e]
    have C7 : ∀ i, i ≠ p → i ≠ q → C' 7 i = V 7 i := fun i h1 h2 => by rw [hC', uu_n h2, uu_n h1, kc.1 7 (by decide)]
    have C1 : C' 1 = V 1 := by rw [Co 1 (by decide), kc.1 1 (by decide)]
    have iv : Inv IVT 0 (fun _ => (0, 0)) (fun _ _ => none) (am_u G 66 1 0) L := by
      refine inv_act2 IVT_fr h0 eu e2 hm g1 g2 g3 g4 g1 g2 g3 g4 kc (fun c n1 n6 n7 n12 => Co c n7) (fun i _ => by rw [C1]) rm Go (fun i hi => G68 i (by omega) (by omega)) ?_ ?_ (Or.inr (Or.inl ⟨rfl, p, kf, q, kt, hpm, hqm, hpq, hkf, hkt, rfl, rfl, rfl, rfl⟩)) (fun i hi => ?_)
      · rw [C1, Co 6 (by decide), kc.1 6 (by decide)]
        refine ⟨m, v, hm, hv, e1, (G68 1 (by omega) (by omega)).trans e2, e3, fun j hj => ?_⟩
        obtain ⟨b0, yj, wj, aj, kj, tj, j1, j2, j3, j4, j5, j6, i1, i2, i3, i4, i5, o1, o2, o3, o4, o5⟩ := hp j hj
        refine ⟨(G68 _ (by omega) (by omega)).trans b0, ?_⟩
        by_cases ej : j = p
        · subst ej
          exact ⟨yj, wj, aj, sb kf d 0, tj, j1, j2, j3, j4, sb_lt (n := 12) hkf (by omega) (by decide) (by decide), j6, i1, i2, i3, C7p, i5, (G68 _ (by omega) (by omega)).trans o1, (G68 _ (by omega) (by omega)).trans o2, (G68 _ (by omega) (by omega)).trans o3, Gp, (G68 _ (by omega) (by omega)).trans o5⟩
        · by_cases ej2 : j = q
          · subst ej2
            exact ⟨yj, wj, aj, sb kt d 1, tj, j1, j2, j3, j4, sb_lt (n := 12) hkt (by omega) (by decide) (by decide), j6, i1, i2, i3, C7q, i5, (G68 _ (by omega) (by omega)).trans o1, (G68 _ (by omega) (by omega)).trans o2, (G68 _ (by omega) (by omega)).trans o3, Gq, (G68 _ (by omega) (by omega)).trans o5⟩
          · exact ⟨yj, wj, aj, kj, tj, j1, j2, j3, j4, j5, j6, i1, i2, i3, (C7 j ej ej2).trans i4, i5, (G68 _ (by omega) (by omega)).trans o1, (G68 _ (by omega) (by omega)).trans o2, (G68 _ (by omega) (by omega)).trans o3, (G68 _ (by omega) (by omega)).trans o4, (G68 _ (by omega) (by omega)).trans o5⟩
      · rw [C1, Co 12 (by decide), kc.1 12 (by decide)]
        exact PRt_cg h0.1.2.2.2.2.1 rfl (fun i _ _ => G68 i (by omega) (by omega))
      · unfold ust
        rw [if_neg (by decide), if_pos rfl, kp, kq]
        by_cases i0 : i = 13 + q
        · rw [if_pos i0, i0, show 5 + (13 + q) = 18 + q by omega]
          exact sk
        · rw [if_neg i0]
          by_cases i1 : i = 13 + p
          · rw [if_pos i1, i1, show 5 + (13 + p) = 18 + p by omega]
            exact rk
          · rw [if_neg i1]
            exact (G68 _ (by omega) (by omega)).symm
    have R := actG (q := 0) (wC := w_99 (nI d) (nI p) (nI q)) (wR := w_259 (nI d) (nI p) (nI q)) eu2 g1 g2 kc (fun c n1 n6 n7 n12 => Co c n7) (by rw [C1]) rm Go (fun i hi => G68 i (by omega) (by omega)) iv (fun T r I K cn k => ?_) (fun I K rn k => ?_)
    · exact ⟨_, t + 1, 0, by omega, R.1, Or.inr (Or.inr (by decide)), R.2.1, R.2.2⟩
    · refine cdl T r I K cn (fun b => absurd b bad) (fun _ _ _ J t' s' y1 y2 y3 y4 kj => ?_)
      have et : t' = t ∧ s' = s := by omega
      rw [et.1, et.2] at kj
      refine k J _ kj (fun c hc => ?_) (fun c c1 c2 n1 => ?_)
      · rw [uu_h (by omega), uu_h (by omega)]
      by_cases z : c = 7
      · rw [z]
        funext i
        by_cases i0 : i = q
        · rw [i0, uu_e, C7q]
        · by_cases i1 : i = p
          · rw [i1, uu_n hpq, uu_e, C7p]
          · rw [uu_n i0, uu_n i1, n1 7 (by decide) (by decide), C7 i i1 i0, kc.1 7 (by decide)]
      · rw [uu_h z, uu_h z, Co c z]; exact n1 c c1 c2
    · refine mdl I K rn (fun b => absurd b bad) (fun _ _ _ => ?_)
      refine q255 hu6 rn.2.1 (fun F t' s' y1 y2 y3 y4 kf' => ?_)
      have et : t' = t ∧ s' = s := by omega
      rw [et.1, et.2] at kf'
      have F68 : F 68 = V 68 := by rw [kf'.1 68 (by decide) (by decide) (by decide)]; exact rn.1
      refine ⟨g18p, g18p, g18q, g18q, ?_⟩
      rw [k18p, k18q, uu_n (by omega), F68, rk, sk, q1s d (by omega)]
      obtain ⟨_, ss1⟩ := sb_sum kf hkf d (by omega)
      have m1 : nI kf - nI (2 ^ d) = nI (sb kf d 0) := by
        have z2 := (ss1 z).1
        rw [show nI kf = nI (sb kf d 0) + nI (2 ^ d) by rw [nb_add, z2], Int32.add_sub_cancel]
      have m2 : nI kt ||| nI (2 ^ d) = nI (sb kt d 1) := by
        rw [fa_or]
        rfl
      rw [m1, m2]
      refine k F _ kf' (fun c hc => ?_) (fun e68 => ?_)
      · rw [uu_h hc, uu_h hc]
      funext i
      by_cases i0 : i = 18 + q
      · rw [i0, uu_e, Gq]
      · by_cases i1 : i = 18 + p
        · rw [i1, uu_n (by omega), uu_e, Gp]
        · rw [uu_n i0, uu_n i1, G68 i i1 i0, e68]
