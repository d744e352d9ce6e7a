/-! give -/
theorem f20i {x : Int32} {w d : Nat} (e : x = nI w) (hw : w < 4096) (hd : d < 31) : f_20 x (nI d) = nI (bi w d) := by
  rw [e]
  exact q20 (by omega) hd
theorem f248i {x : Int32} {w d : Nat} (e : x = nI w) (hw : w < 4096) (hd : d < 31) : (f_248 x (nI d) = 0 ∧ bi w d = 0) ∨ (f_248 x (nI d) = 1 ∧ bi w d = 1) := by
  rw [q248, f20i e hw hd]
  have := bi_lt w d
  rcases (by omega : bi w d = 0 ∨ bi w d = 1) with h | h
  · exact Or.inl ⟨by rw [h]; rfl, h⟩
  · exact Or.inr ⟨by rw [h]; rfl, h⟩
theorem o_19 {D : am_P} (hD : FrD D) {N : Nat} {T : Nat → Nat × Nat} {r : Nat → Nat → Option Nat} {I : am_I} {L : am_J} (h : Inv D N T r I L) (x1 x2 x3 : Int32) : op_19 x1 x2 x3 (Inv D) N T r I L := by
  unfold op_19 w_119 w_99
  obtain ⟨m, v, hm, hv, e1, e2, e3, hp⟩ := id h.1.2.1
  obtain ⟨n, w, hn, hw, f1, f2, f3, hpd⟩ := id h.1.1
  obtain ⟨u, m', hu, hm', w1, eu, eu2, old⟩ := id h.1.2.2.2.2.2.2.1
  rcases qd hn f1 f2 x1 with ⟨d1, d2, _⟩ | ⟨d1, d2, d, hd, rfl⟩
  · rw [if_pos d1]
    refine so2 ?_
    show w_258 _ _ _ _ _
    unfold w_258 w_259
    exact am_ifp d2 (tl2 ⟨rfl, inv_r2 hD h⟩)
  rw [if_neg (by rw [d1]; decide)]
  have n3 : ¬ f_187 (nI d) I = 0 := by rw [d2]; decide
  rcases qm hm e1 e2 x2 with ⟨c1, c2, _⟩ | ⟨c1, c2, p, hpm, rfl⟩
  · rw [if_pos c1]
    refine so2 ?_
    show w_258 _ _ _ _ _
    unfold w_258 w_259
    exact am_ifn n3 (am_ifp c2 (tl2 ⟨rfl, inv_r2 hD h⟩))
  rw [if_neg (by rw [c1]; decide)]
  have n2 : ¬ f_192 (nI p) I = 0 := by rw [c2]; decide
  rcases qm hm e1 e2 x3 with ⟨b1', b2, _⟩ | ⟨b1', b2, q, hqm, rfl⟩
  · rw [if_pos b1']
    refine so2 ?_
    show w_258 _ _ _ _ _
    unfold w_258 w_259
    exact am_ifn n3 (am_ifn n2 (am_ifp b2 (tl2 ⟨rfl, inv_r2 hD h⟩)))
  rw [if_neg (by rw [b1']; decide)]
  have n4 : ¬ f_192 (nI q) I = 0 := by rw [b2]; decide
  by_cases pq : nI p = nI q
  · rw [if_pos pq]
    refine so3 ?_
    show w_258 _ _ _ _ _
    unfold w_258 w_259
    exact am_ifn n3 (am_ifn n2 (am_ifn n4 (am_ifp pq (tl3 ⟨rfl, inv_r3 hD h⟩))))
  rw [if_neg pq]
  have hpq : p ≠ q := fun z => pq (by rw [z])
  have gp : ¬ (nI p < 0 ∨ 8 ≤ Int32.toNatClampNeg (nI p)) := nb_gd (by omega) (by decide)
  have gq : ¬ (nI q < 0 ∨ 8 ≤ Int32.toNatClampNeg (nI q)) := nb_gd (by omega) (by decide)
  have kp : Int32.toNatClampNeg (nI p) = p := nI_clamp (by omega)
  have kq : Int32.toNatClampNeg (nI q) = q := nI_clamp (by omega)
  refine ⟨gp, gq, ?_⟩
  rw [kp, kq]
  rw [kp] at gp
  rw [kq] at gq
  obtain ⟨_, yp, wp, xp, kf, tf, _, _, _, hxp, hkf, htf, _, _, px, pk, pt, _, _, rx, rk, rt⟩ := hp p hpm
  obtain ⟨_, yq, wq, xq, kt, tq, _, _, _, hxq, hkt, htq, _, _, qx, qk, qt, _, _, sx, sk, st⟩ := hp q hqm
  obtain ⟨g18p, k18p⟩ := ixa (a := 18) (n := p) (by omega)
  obtain ⟨g18q, k18q⟩ := ixa (a := 18) (n := q) (by omega)
  obtain ⟨g10p, k10p⟩ := ixa (a := 10) (n := p) (by omega)
  obtain ⟨g10q, k10q⟩ := ixa (a := 10) (n := q) (by omega)
  obtain ⟨g42p, k42p⟩ := ixa (a := 42) (n := p) (by omega)
  have k18p : Int32.toNatClampNeg (18 + nI p) = 18 + p := k18p
  have k18q : Int32.toNatClampNeg (18 + nI q) = 18 + q := k18q
  have k10p : Int32.toNatClampNeg (10 + nI p) = 10 + p := k10p
  have k10q : Int32.toNatClampNeg (10 + nI q) = 10 + q := k10q
  have k42p : Int32.toNatClampNeg (42 + nI p) = 42 + p := k42p
  -- the reference, where its row is as it was
  have mdl : ∀ (J : am_I) (K : Int32 → am_I → Prop), J 68 = I 68 → ((bi kf d = 0 ∨ ¬ xp = xq ∨ bi tf q = 0) → K (-3) J) → (bi kf d = 1 → xp = xq → bi tf q = 1 → w_255 1 J (fun I2 => ¬ ((18 + nI p) < 0 ∨ 5510 ≤ Int32.toNatClampNeg (18 + nI p)) ∧ ¬ ((18 + nI p) < 0 ∨ 5510 ≤ Int32.toNatClampNeg (18 + nI p)) ∧ ¬ ((18 + nI q) < 0 ∨ 5510 ≤ Int32.toNatClampNeg (18 + nI q)) ∧ ¬ ((18 + nI q) < 0 ∨ 5510 ≤ Int32.toNatClampNeg (18 + nI q)) ∧ K 0 (am_u (am_u I2 68 (Int32.toNatClampNeg (18 + nI p)) ((I2 68 (Int32.toNatClampNeg (18 + nI p))) - (1 <<< (nI d &&& 31)))) 68 (Int32.toNatClampNeg (18 + nI q)) (((am_u I2 68 (Int32.toNatClampNeg (18 + nI p)) ((I2 68 (Int32.toNatClampNeg (18 + nI p))) - (1 <<< (nI d &&& 31)))) 68 (Int32.toNatClampNeg (18 + nI q))) ||| (1 <<< (nI d &&& 31)))))) → w_259 (nI d) (nI p) (nI q) J K := by
    intro J K hJ hr hs
    unfold w_259
    refine am_ifn (show ¬ f_187 (nI d) J = 0 by unfold f_187 at n3 ⊢; rw [hJ]; exact n3) (am_ifn (show ¬ f_192 (nI p) J = 0 by unfold f_192 at n2 ⊢; rw [hJ]; exact n2) (am_ifn (show ¬ f_192 (nI q) J = 0 by unfold f_192 at n4 ⊢; rw [hJ]; exact n4) (am_ifn pq ⟨g18p, ?_⟩)))
    rw [k18p, hJ]
    rcases f248i (d := d) rk hkf (by omega) with ⟨z1, z2⟩ | ⟨z1, z2⟩
    · rw [if_pos z1]
      exact hr (Or.inl z2)
    rw [if_neg (by rw [z1]; decide)]
    refine ⟨g10p, g10q, ?_⟩
    rw [k10p, k10q, rx, sx]
    by_cases cx : xp = xq
    · rw [if_pos (by rw [cx])]
      unfold w_249
      rw [k42p, hJ]
      refine ⟨(show ¬ ((42 : Int32) + nI p < 0 ∨ 5510 ≤ 42 + p) by rw [← k42p]; exact g42p), ?_⟩
      rcases f248i (d := q) rt (by omega) (by omega) with ⟨y1, y2⟩ | ⟨y1, y2⟩
      · rw [y1]
        exact ⟨Or.inl rfl, am_ifp rfl (hr (Or.inr (Or.inr y2)))⟩
      · rw [y1]
        refine ⟨Or.inr rfl, am_ifn (by decide) ?_⟩
        have hs' := hs z2 cx y2
        rw [k18p] at hs'
        exact hs'
    · rw [if_neg (fun z => cx ((nb_inj (by omega) (by omega)).mp z))]
      exact hr (Or.inr (Or.inl cx))
  have ref : (bi kf d = 0 ∨ ¬ xp = xq ∨ bi tf q = 0) → w_118 (-3) I (fun q3 I4 => w_258 (nI d) (nI p) (nI q) I4 (fun q2 I2 => q3 = q2 ∧ Inv D N T r I2 L)) := by
    intro bad
    refine so3 ?_
    show w_258 _ _ _ _ _
    unfold w_258
    refine mdl _ _ rfl (fun _ => ?_) (fun a1 a2 a3 => ?_)
    · exact tl3 ⟨rfl, inv_r3 hD h⟩
    · exact absurd bad (by omega)
  rw [px, qx]
  by_cases cx : xp = xq
  · rw [if_pos (by rw [cx])]
    refine ⟨gp, ?_⟩
    rw [f20i pk hkf (by omega)]
    have b2' := bi_lt kf d
    rcases (by omega : bi kf d = 0 ∨ bi kf d = 1) with z | z
    · rw [if_pos (by rw [z]; rfl)]
      exact ref (Or.inl z)
    rw [if_neg (by rw [z]; decide)]
    refine ⟨gp, ?_⟩
    rw [f20i pt (by omega) (by omega)]
    have b3' := bi_lt tf q
    rcases (by omega : bi tf q = 0 ∨ bi tf q = 1) with y | y
    · rw [if_pos (by rw [y]; rfl)]
      exact ref (Or.inr (Or.inr y))
    rw [if_neg (by rw [y]; decide)]
    refine ⟨gp, gq, ?_⟩
    rw [pk, qk]
    refine q97 hu eu (fun C t s g1 g2 g3 g4 kc => ?_)
    refine ⟨gp, gp, gq, gq, ?_⟩
    have c7 : C 7 = I 7 := kc.1 7 (by decide)
    have c66 : C 66 = I 66 := kc.1 66 (by decide)
    have c68 : C 68 = I 68 := kc.1 68 (by decide)
    rw [uu_n (show q ≠ p from Ne.symm hpq), c7, pk, qk, show (0 : Int32) = nI 0 from rfl, show (1 : Int32) = nI 1 from rfl, q21 (by omega) (by decide), q21 (by omega) (by decide)]
    refine so0 (by decide) ?_
    show w_258 _ _ _ _ _
    unfold w_258
    generalize hZ : am_u (am_u (am_u (am_u (am_u C 7 p (nI (sb kf d 0))) 7 q (nI (sb kt d 1))) 0 12 0) 0 10 0) 66 0 0 = Z
    have hZ' : am_u (am_u (am_u (am_u (am_u C 7 p (nI (sb kf d 0))) 7 q (nI (sb kt d 1))) 0 12 (nI 0)) 0 10 (nI 0)) 66 0 0 = Z := hZ
    have Z68 : Z 68 = I 68 := by rw [← hZ, uu_h (by decide), uu_h (by decide), uu_h (by decide), uu_h (by decide), uu_h (by decide)]; exact c68
    have Z66 : Z 66 8 = nI u := by rw [← hZ, uu_n (by decide), uu_c (by decide), uu_c (by decide), uu_c (by decide), uu_c (by decide), c66]; exact eu2
    refine mdl Z _ Z68 (fun bad => absurd bad (by omega)) (fun _ _ _ => ?_)
    refine q255 hu Z66 (fun M t' s' k1' k2' k3' k4' rm => ?_)
    have M68 : M 68 = I 68 := by rw [rm.1 68 (by decide) (by decide) (by decide), Z68]
    refine ⟨g18p, g18p, g18q, g18q, ?_⟩
    rw [k18p, k18q, uu_n (by omega), M68, rk, sk, q1s d (by omega)]
    obtain ⟨_, ss1⟩ := sb_sum kf hkf d (by omega)
    have m1 : nI kf - nI (2 ^ d) = nI (sb kf d 0) := by
      have z2 := (ss1 z).1
      rw [show nI kf = nI (sb kf d 0) + nI (2 ^ d) by rw [nb_add, z2], Int32.add_sub_cancel]
    have m2 : nI kt ||| nI (2 ^ d) = nI (sb kt d 1) := by
      rw [fa_or]
      rfl
    rw [m1, m2]
    refine tl0 (by decide) ⟨rfl, ?_⟩
    have G68 : ∀ i, i ≠ 18 + p → i ≠ 18 + q → am_u (am_u M 68 (18 + p) (nI (sb kf d 0))) 68 (18 + q) (nI (sb kt d 1)) 68 i = I 68 i := fun i h1 h2 => by rw [uu_n h2, uu_n h1, M68]
    have C7 : ∀ i, i ≠ p → i ≠ q → am_u (am_u C 7 p (nI (sb kf d 0))) 7 q (nI (sb kt d 1)) 7 i = I 7 i := fun i h1 h2 => by rw [uu_n h2, uu_n h1, c7]
    have C1 : am_u (am_u C 7 p (nI (sb kf d 0))) 7 q (nI (sb kt d 1)) 1 = I 1 := by rw [uu_h (by decide), uu_h (by decide), kc.1 1 (by decide)]
    rw [← hZ] at rm
    refine inv_act2 hD h eu e2 hm g1 g2 g3 g4 k1' k2' k3' k4' kc (fun c n1 n6 n7 n12 => by rw [uu_h n7, uu_h n7]) (fun i _ => by rw [C1]) rm (fun c hc => by rw [uu_h hc, uu_h hc]) (fun i hi => G68 i (by omega) (by omega)) ?_ ?_ (Or.inr (Or.inl ⟨rfl, p, kf, q, kt, hpm, hqm, hpq, hkf, hkt, rfl, rfl, rfl, rfl⟩)) (fun i hi => ?_)
    · rw [C1, uu_h (show (6 : Nat) ≠ 7 by decide), uu_h (show (6 : Nat) ≠ 7 by decide), kc.1 6 (by decide)]
      refine ⟨m, v, hm, hv, e1, (G68 1 (by omega) (by omega)).trans e2, e3, fun j hj => ?_⟩
      obtain ⟨b0, yj, wj, aj, kj, tj, j1, j2, j3, j4, j5, j6, i1, i2, i3, i4, i5, o1, o2, o3, o4, o5⟩ := hp j hj
      refine ⟨(G68 _ (by omega) (by omega)).trans b0, ?_⟩
      by_cases ej : j = p
      · subst ej
        exact ⟨yj, wj, aj, sb kf d 0, tj, j1, j2, j3, j4, sb_lt (n := 12) hkf (by omega) (by decide) (by decide), j6, i1, i2, i3, by rw [uu_n hpq, uu_e], i5, (G68 _ (by omega) (by omega)).trans o1, (G68 _ (by omega) (by omega)).trans o2, (G68 _ (by omega) (by omega)).trans o3, by rw [uu_n (by omega), uu_e], (G68 _ (by omega) (by omega)).trans o5⟩
      · by_cases ej2 : j = q
        · subst ej2
          exact ⟨yj, wj, aj, sb kt d 1, tj, j1, j2, j3, j4, sb_lt (n := 12) hkt (by omega) (by decide) (by decide), j6, i1, i2, i3, uu_e, i5, (G68 _ (by omega) (by omega)).trans o1, (G68 _ (by omega) (by omega)).trans o2, (G68 _ (by omega) (by omega)).trans o3, uu_e, (G68 _ (by omega) (by omega)).trans o5⟩
        · exact ⟨yj, wj, aj, kj, tj, j1, j2, j3, j4, j5, j6, i1, i2, i3, (C7 j ej ej2).trans i4, i5, (G68 _ (by omega) (by omega)).trans o1, (G68 _ (by omega) (by omega)).trans o2, (G68 _ (by omega) (by omega)).trans o3, (G68 _ (by omega) (by omega)).trans o4, (G68 _ (by omega) (by omega)).trans o5⟩
    · rw [C1, uu_h (show (12 : Nat) ≠ 7 by decide), uu_h (show (12 : Nat) ≠ 7 by decide), kc.1 12 (by decide)]
      exact PRt_cg h.1.2.2.2.2.1 rfl (fun i _ _ => G68 i (by omega) (by omega))
    · unfold ust
      rw [if_neg (by decide), if_pos rfl, kp, kq]
      by_cases i0 : i = 13 + q
      · rw [if_pos i0, i0, show 5 + (13 + q) = 18 + q by omega]
        exact sk
      · rw [if_neg i0]
        by_cases i1 : i = 13 + p
        · rw [if_pos i1, i1, show 5 + (13 + p) = 18 + p by omega]
          exact rk
        · rw [if_neg i1]
          exact (G68 _ (by omega) (by omega)).symm
  · rw [if_neg (fun z => cx ((nb_inj (by omega) (by omega)).mp z))]
    exact ref (Or.inr (Or.inl cx))
