/-! orders: going -/
theorem act0 {V : am_I} {u : Nat} (h : IV V) (hu : V 29 0 = nI u) (hu6 : u ≤ 16) (x1 x2 : Int32) : ∃ V' u' q, u' ≤ 16 ∧ IV V' ∧ (q = -2 ∨ q = -3 ∨ 0 ≤ q) ∧ V' 29 0 = nI u' ∧ ACT V V' u u' q (w_94 x1 x2) (w_252 x1 x2) := by
  obtain ⟨L, h⟩ := h
  have h0 := h
  obtain ⟨m, v, hm, hv, e1, e2, e3, hp⟩ := id h.1.2.1
  obtain ⟨n, w, hn, hw, f1, f2, f3, hpd⟩ := id h.1.1
  obtain ⟨u2, m', hu', hm', w1, eu, eu2, old⟩ := id h.1.2.2.2.2.2.2.1
  have uu : u2 = u := (nb_inj (by omega) (by omega)).mp (eu.symm.trans hu)
  rw [uu] at eu eu2
  have f27 : ∀ I, CNv I V u → f_27 x1 I = f_27 x1 V := fun I cn => by unfold f_27; rw [cn.1 1 (by decide) (by decide)]
  have f19 : ∀ I, CNv I V u → f_19 x2 I = f_19 x2 V := fun I cn => by unfold f_19; rw [cn.1 1 (by decide) (by decide)]
  have f192 : ∀ I, RNv I V u → f_192 x1 I = f_192 x1 V := fun I rn => by unfold f_192; rw [rn.1]
  have f187 : ∀ I, RNv I V u → f_187 x2 I = f_187 x2 V := fun I rn => by unfold f_187; rw [rn.1]
  rcases qm hm e1 e2 x1 with ⟨c1, c2, _⟩ | ⟨c1, c2, p, hpm, ep⟩
  · refine ⟨V, u, -2, hu6, ⟨L, h0⟩, Or.inl rfl, hu, VF_r, fun T r I K cn k => ?_, fun G K rn k => ?_⟩
    · unfold w_94
      exact am_ifp ((f27 I cn).trans c1) (k I cn (fun _ _ _ => rfl))
    · unfold w_252
      exact am_ifp ((f192 G rn).trans c2) (k G rn (fun _ _ _ _ _ => rfl) (fun _ _ => rfl) (fun _ _ => rfl))
  have m1 : ∀ I, CNv I V u → ¬ f_27 x1 I = 0 := fun I cn => by rw [f27 I cn, c1]; decide
  have n2 : ∀ I, RNv I V u → ¬ f_192 x1 I = 0 := fun I rn => by rw [f192 I rn, c2]; decide
  rcases qd hn f1 f2 x2 with ⟨d1, d2, _⟩ | ⟨d1, d2, dd, hdd, ed⟩
  · refine ⟨V, u, -2, hu6, ⟨L, h0⟩, Or.inl rfl, hu, VF_r, fun T r I K cn k => ?_, fun G K rn k => ?_⟩
    · unfold w_94
      exact am_ifn (m1 I cn) (am_ifp ((f19 I cn).trans d1) (k I cn (fun _ _ _ => rfl)))
    · unfold w_252
      exact am_ifn (n2 G rn) (am_ifp ((f187 G rn).trans d2) (k G rn (fun _ _ _ _ _ => rfl) (fun _ _ => rfl) (fun _ _ => rfl)))
  have m3 : ∀ I, CNv I V u → ¬ f_19 x2 I = 0 := fun I cn => by rw [f19 I cn, d1]; decide
  have n3 : ∀ I, RNv I V u → ¬ f_187 x2 I = 0 := fun I rn => by rw [f187 I rn, d2]; decide
  have hpl : ∀ q, q < m → V 6 q = V 68 (10 + q) := by
    intro q hq
    obtain ⟨_, y, w, a, k, t, _, _, _, _, _, _, _, _, q3, _, _, _, _, s3, _, _⟩ := hp q hq
    exact q3.trans s3.symm
  have oe := op_eq (pl := V 6) hw hn hdd f3 (hpd dd hdd).1 hp hpm hpl
  obtain ⟨_, ya, wa, x, ka, ta, y1, y2, y3, hx, y5, y6, z1, z2, px, z4, z5, t1, t2, rx, t4, t5⟩ := hp p hpm
  obtain ⟨_, y, z, hy, hz, hyz, py, pz', ry, rz⟩ := hpd dd hdd
  have key := bey_b1 (opb (decide (¬ V 68 (60 + 3 * dd) = 0)) (fun q => V 68 (10 + q)) (fun q => V 68 (18 + q)) (fun q => V 68 (42 + q)) m p dd) x y z hy hz
  have cls : ∀ T r I (K : Int32 → Prop), CNv I V u → K (bey (opb (decide (¬ V 68 (60 + 3 * dd) = 0)) (fun q => V 68 (10 + q)) (fun q => V 68 (18 + q)) (fun q => V 68 (42 + q)) m p dd) x y z) → w_95 x1 x2 6 T r I K := by
    intro T r I K cn k
    have i1 := cn.1 1 (by decide) (by decide)
    rw [ep, ed]
    refine q95 (a := 6) hm hpm hn hdd (by rw [i1]; exact e1) rfl (show 8 ≤ 8 from Nat.le_refl 8) hx hy hz (by rw [cn.1 6 (by decide) (by decide)]; exact px) (by rw [cn.1 2 (by decide) (by decide)]; exact py) (by rw [cn.1 3 (by decide) (by decide)]; exact pz') ?_
    rw [i1, cn.1 6 (by decide) (by decide), cn.1 7 (by decide) (by decide), cn.1 8 (by decide) (by decide), oe]
    exact k
  have rfs : ∀ G (K : Int32 → Prop), G 68 = V 68 → K (b1 ((decide (y = x) || decide (z = x)) && opb (decide (¬ V 68 (60 + 3 * dd) = 0)) (fun q => V 68 (10 + q)) (fun q => V 68 (18 + q)) (fun q => V 68 (42 + q)) m p dd)) → w_253 x1 x2 G K := by
    intro G K g k
    rw [ep, ed]
    refine q253 (x := x) (y := y) (z := z) hm hpm hn hdd (by rw [g]; exact e2) hx hy hz (by rw [g]; exact rx) (by rw [g]; exact ry) (by rw [g]; exact rz) ?_
    rw [g]
    exact k
  rcases key with ⟨k1, k2⟩ | ⟨k1, k2, w', hw', k3⟩
  · refine ⟨V, u, -3, hu6, ⟨L, h0⟩, Or.inr (Or.inl rfl), hu, VF_r, fun T r I K cn k => ?_, fun G K rn k => ?_⟩
    · unfold w_94
      exact am_ifn (m1 I cn) (am_ifn (m3 I cn) (cls T r I _ cn (am_ifp k2 (k I cn (fun _ _ _ => rfl)))))
    · unfold w_252
      exact am_ifn (n2 G rn) (am_ifn (n3 G rn) (rfs G _ rn.1 (am_ifp k1 (k G rn (fun _ _ _ _ _ => rfl) (fun _ _ => rfl) (fun _ _ => rfl)))))
  · obtain ⟨t, s, g1, g2, g3, g4⟩ := ts_of hu6
    have kc : kep V (kpC V t s 0 (nI p) (nI x) 0 0) t s 0 (nI p) (nI x) 0 0 := kpC_k
    obtain ⟨C, eC⟩ : ∃ C, C = kpC V t s 0 (nI p) (nI x) 0 0 := ⟨_, rfl⟩
    rw [← eC] at kc
    have rm : rmb (am_u (am_u (am_u (am_u C 6 p (nI w')) 0 12 0) 0 10 0) 66 0 0) (kpR (am_u (am_u (am_u (am_u C 6 p (nI w')) 0 12 0) 0 10 0) 66 0 0) t s 0) t s 0 := kpR_k g1
    obtain ⟨M, eM⟩ : ∃ M, M = kpR (am_u (am_u (am_u (am_u C 6 p (nI w')) 0 12 0) 0 10 0) 66 0 0) t s 0 := ⟨_, rfl⟩
    rw [← eM] at rm
    have M68 : M 68 = V 68 := by rw [rm.1 68 (by decide) (by decide) (by decide), uu_h (by decide), uu_h (by decide), uu_h (by decide), uu_h (by decide), kc.1 68 (by decide)]
    have G68 : ∀ i, i ≠ 10 + p → am_u M 68 (10 + p) (nI w') 68 i = V 68 i := fun i hi => by rw [uu_n hi, M68]
    have C6 : ∀ i, i ≠ p → am_u C 6 p (nI w') 6 i = V 6 i := fun i hi => by rw [uu_n hi, kc.1 6 (by decide)]
    have C1 : am_u C 6 p (nI w') 1 = V 1 := by rw [uu_h (by decide), kc.1 1 (by decide)]
    have kp : Int32.toNatClampNeg (nI p) = p := nI_clamp (by omega)
    have gp : ¬ (nI p < 0 ∨ 8 ≤ p) := fun q => q.elim (fun z => nI_pos (by omega) z) (fun z => by omega)
    have iv : Inv IVT 0 (fun _ => (0, 0)) (fun _ _ => none) (am_u (am_u M 68 (10 + p) (nI w')) 66 1 0) L := by
      refine inv_act2 IVT_fr h0 eu e2 hm g1 g2 g3 g4 g1 g2 g3 g4 kc (fun c n1 n6 n7 n12 => uu_h n6) (fun i _ => by rw [C1]) rm (fun c hc => uu_h hc) (fun i hi => G68 i (by omega)) ?_ ?_ (Or.inl ⟨rfl, p, x, hpm, hx, rfl, rfl⟩) (fun i hi => ?_)
      · rw [C1, uu_h (show (7 : Nat) ≠ 6 by decide), kc.1 7 (by decide)]
        refine ⟨m, v, hm, hv, e1, (G68 1 (by omega)).trans e2, e3, fun j hj => ?_⟩
        obtain ⟨b0, yj, wj, aj, kj, tj, j1, j2, j3, j4, j5, j6, i1, i2, i3, i4, i5, o1, o2, o3, o4, o5⟩ := hp j hj
        refine ⟨(G68 _ (by omega)).trans b0, ?_⟩
        by_cases ej : j = p
        · subst ej
          exact ⟨yj, wj, w', kj, tj, j1, j2, j3, hw', j5, j6, i1, i2, uu_e, i4, i5, (G68 _ (by omega)).trans o1, (G68 _ (by omega)).trans o2, uu_e, (G68 _ (by omega)).trans o4, (G68 _ (by omega)).trans o5⟩
        · exact ⟨yj, wj, aj, kj, tj, j1, j2, j3, j4, j5, j6, i1, i2, (C6 j ej).trans i3, i4, i5, (G68 _ (by omega)).trans o1, (G68 _ (by omega)).trans o2, (G68 _ (by omega)).trans o3, (G68 _ (by omega)).trans o4, (G68 _ (by omega)).trans o5⟩
      · rw [C1, uu_h (show (12 : Nat) ≠ 6 by decide), kc.1 12 (by decide)]
        exact PRt_cg h0.1.2.2.2.2.1 rfl (fun i _ _ => G68 i (by omega))
      · unfold ust
        rw [if_pos rfl, kp]
        by_cases i0 : i = 5 + p
        · rw [if_pos i0, i0, show 5 + (5 + p) = 10 + p by omega]
          exact rx
        · rw [if_neg i0]
          exact (G68 _ (by omega)).symm
    have R := actG (q := nI w') (wC := w_94 x1 x2) (wR := w_252 x1 x2) eu2 g1 g2 kc (fun c n1 n6 n7 n12 => uu_h n6) (by rw [C1]) rm (fun c hc => uu_h hc) (fun i hi => G68 i (by omega)) iv (fun T r I K cn k => ?_) (fun I K rn k => ?_)
    · exact ⟨_, t + 1, nI w', by omega, R.1, Or.inr (Or.inr (nI_pos' (by omega))), R.2.1, R.2.2⟩
    · unfold w_94
      refine am_ifn (m1 I cn) (am_ifn (m3 I cn) (cls T r I _ cn ?_))
      rw [k3]
      refine am_ifn (nb_m1 (by omega)) ?_
      rw [ep, kp]
      refine ⟨gp, ?_⟩
      rw [cn.1 6 (by decide) (by decide), px]
      refine q97 hu6 cn.2.1 (fun J t' s' y1 y2 y3 y4 kj => ⟨gp, ?_⟩)
      have et : t' = t ∧ s' = s := by omega
      rw [et.1, et.2] at kj
      refine k J _ kj (fun c hc => uu_h (by omega)) (fun c c1 c2 n1 => ?_)
      by_cases z : c = 6
      · rw [z]
        funext i
        by_cases i0 : i = p
        · rw [i0, uu_e, uu_e]
        · rw [uu_n i0, uu_n i0, n1 6 (by decide) (by decide)]
      · rw [uu_h z, uu_h z]; exact n1 c c1 c2
    · unfold w_252
      refine am_ifn (n2 I rn) (am_ifn (n3 I rn) (rfs I _ rn.1 ?_))
      refine am_ifn (by rw [k1]; decide) ?_
      refine q255 hu6 rn.2.1 (fun F t' s' y1 y2 y3 y4 kf => ?_)
      have et : t' = t ∧ s' = s := by omega
      rw [et.1, et.2] at kf
      have F68 : F 68 = V 68 := by rw [kf.1 68 (by decide) (by decide) (by decide)]; exact rn.1
      obtain ⟨g10, k10⟩ := ixa (a := 10) (n := p) (by omega)
      have k10 : Int32.toNatClampNeg (10 + nI p) = 10 + p := k10
      rw [ep, ed]
      refine ⟨g10, ?_⟩
      rw [k10, F68, rx]
      refine q257 (x := x) (y := y) (z := z) (by omega) hx hy (by rw [F68]; exact ry) (by rw [F68]; exact rz) ?_
      rw [← k2, k3]
      refine ⟨(show ¬ ((10 : Int32) + nI p < 0 ∨ 5510 ≤ 10 + p) by rw [← k10]; exact g10), (show ¬ ((10 : Int32) + nI p < 0 ∨ 5510 ≤ 10 + p) by rw [← k10]; exact g10), ?_⟩
      rw [uu_e]
      refine k F _ kf (fun c hc => uu_h hc) (fun e68 => ?_)
      funext i
      by_cases i9 : i = 10 + p
      · rw [i9, uu_e, uu_e]
      · rw [uu_n i9, uu_n i9, e68, M68]
