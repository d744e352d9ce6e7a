/-! orders: an act that is done, on both sides; inspecting -/
theorem ts_of {u : Nat} (hu : u ≤ 16) : ∃ t s, t ≤ 15 ∧ t + s = u ∧ s ≤ 1 ∧ (s = 0 ∨ u = 16) := by
  by_cases z : u = 16
  · exact ⟨15, 1, by omega, by omega, by omega, Or.inr z⟩
  · exact ⟨u, 0, by omega, by omega, by omega, Or.inl rfl⟩
theorem actG {V C C1 M G : am_I} {L : am_J} {u t s : Nat} {x0 x1 x2 x3 x4 q : Int32} {wC : (Nat → Nat × Nat) → (Nat → Nat → Option Nat) → am_I → (Int32 → am_I → Prop) → Prop} {wR : am_I → (Int32 → am_I → Prop) → Prop} (hu : V 66 8 = nI u) (g1 : t ≤ 15) (g2 : t + s = u) (kc : kep V C t s x0 x1 x2 x3 x4) (hC : ∀ c, c ≠ 1 → c ≠ 6 → c ≠ 7 → c ≠ 12 → C1 c = C c) (h15 : C1 1 15 = V 1 15) (rm : rmb (am_u (am_u (am_u C1 0 12 0) 0 10 0) 66 0 0) M t s x0) (hG : ∀ c, c ≠ 68 → G c = M c) (hG68 : ∀ i, (i < 5 ∨ 26 ≤ i) → G 68 i = V 68 i) (iv : Inv IVT 0 (fun _ => (0, 0)) (fun _ _ => none) (am_u G 66 1 0) L) (hc : ∀ T r I K, CNv I V u → (∀ J J1, kep I J t s x0 x1 x2 x3 x4 → (∀ c, ¬ (1 ≤ c ∧ c ≤ 12) → J1 c = J c) → (∀ c, 1 ≤ c → c ≤ 12 → (∀ c, 1 ≤ c → c ≤ 12 → J c = C c) → J1 c = C1 c) → K q J1) → wC T r I K) (hr : ∀ I K, RNv I V u → (∀ F F1, rmb I F t s x0 → (∀ c, c ≠ 68 → F1 c = F c) → (F 68 = V 68 → F1 68 = G 68) → K q F1) → wR I K) : IV (am_u G 66 1 0) ∧ (am_u G 66 1 0) 29 0 = nI (t + 1) ∧ ACT V (am_u G 66 1 0) u (t + 1) q wC wR := by
  obtain ⟨Z, hZ⟩ : ∃ Z, Z = am_u (am_u (am_u C1 0 12 0) 0 10 0) 66 0 0 := ⟨_, rfl⟩
  rw [← hZ] at rm
  have Zo : ∀ c, c ≠ 0 → c ≠ 66 → Z c = C1 c := fun c c0 c66 => by rw [hZ, uu_h c66, uu_h c0, uu_h c0]
  have Vo : ∀ c, c ≠ 66 → c ≠ 68 → c ≠ 71 → c ≠ 72 → am_u G 66 1 0 c = Z c := fun c c1 c2 c3 c4 => by rw [uu_h c1, hG c c2, rm.1 c c1 c3 c4]
  have Z8 : Z 66 8 = nI u := by rw [hZ, uu_n (by decide), uu_c (by decide), uu_c (by decide), hC 66 (by decide) (by decide) (by decide) (by decide), kc.1 66 (by decide)]; exact hu
  have V29 : (am_u G 66 1 0) 29 0 = nI (t + 1) := by rw [Vo 29 (by decide) (by decide) (by decide) (by decide), Zo 29 (by decide) (by decide), hC 29 (by decide) (by decide) (by decide) (by decide)]; exact kc.2.1
  refine ⟨⟨L, iv⟩, V29, ⟨fun i hi => by rw [uu_h (by decide)]; exact hG68 i hi, by rw [Vo 1 (by decide) (by decide) (by decide) (by decide), Zo 1 (by decide) (by decide)]; exact h15⟩, fun T r I K cn k => ?_, fun I K rn k => ?_⟩
  · refine hc T r I K cn (fun J J1 kj j1 j2 => ?_)
    obtain ⟨n1, n2, n3, n4⟩ := CNv_k cn g2 kj kc
    have Vu : ∀ c, 29 ≤ c → c ≤ 34 → am_u G 66 1 0 c = C c := fun c c1 c2 => by rw [Vo c (by omega) (by omega) (by omega) (by omega), Zo c (by omega) (by omega), hC c (by omega) (by omega) (by omega) (by omega)]
    refine k J1 ⟨fun c c1 c2 => ?_, ?_, V29, fun j hj => ?_⟩ (fun c c1 c2 => ?_)
    · rw [Vo c (by omega) (by omega) (by omega) (by omega), Zo c (by omega) (by omega)]
      exact j2 c c1 c2 n1
    · rw [j1 29 (by omega)]; exact n2
    · rw [j1 30 (by omega), j1 31 (by omega), j1 32 (by omega), j1 33 (by omega), j1 34 (by omega), Vu 30 (by decide) (by decide), Vu 31 (by decide) (by decide), Vu 32 (by decide) (by decide), Vu 33 (by decide) (by decide), Vu 34 (by decide) (by decide)]
      exact n4 j hj
    · rw [j1 c c1]
      exact kj.1 c (by omega)
  · have Zv : ∀ c, c = 68 ∨ c = 71 ∨ c = 72 → Z c = V c := fun c hc => by rw [Zo c (by omega) (by omega), hC c (by omega) (by omega) (by omega) (by omega), kc.1 c (by omega)]
    have rz : RNv I Z u := ⟨by rw [Zv 68 (by omega)]; exact rn.1, rn.2.1, Z8, fun k hk => by rw [Zv 71 (by omega)]; exact rn.2.2.2.1 k hk, fun j hj => by rw [Zv 72 (by omega)]; exact rn.2.2.2.2 j hj⟩
    refine hr I K rn (fun F F1 kf f1 f2 => ?_)
    obtain ⟨n1, n2, n3, n4, n5⟩ := RNv_k rz g2 kf rm
    have F68 : F 68 = V 68 := by rw [kf.1 68 (by decide) (by decide) (by decide)]; exact rn.1
    refine k F1 ⟨?_, ?_, ?_, fun k hk => ?_, fun j hj => ?_⟩ (fun c c1 c2 c3 c4 => ?_) (fun i hi => ?_) (fun k hk => ?_)
    · rw [uu_h (by decide)]; exact f2 F68
    · rw [f1 66 (by decide)]; exact n2
    · rw [uu_n (by decide), hG 66 (by decide)]; exact n3
    · rw [f1 71 (by decide), uu_c (by decide), hG 71 (by decide)]; exact n4 k hk
    · rw [f1 72 (by decide), uu_c (by decide), hG 72 (by decide)]; exact n5 j hj
    · rw [f1 c c2]; exact kf.1 c c1 c3 c4
    · rw [f1 66 (by decide)]; exact kf.2.1 i hi
    · rw [f1 71 (by decide)]; exact kf.2.2.2.2.2.2.2 k hk
theorem act2 {V : am_I} {u : Nat} (h : IV V) (hu : V 29 0 = nI u) (hu6 : u ≤ 16) : ∃ V' u' q, u' ≤ 16 ∧ IV V' ∧ (q = -3 ∨ ∃ n, n ≤ 8 ∧ q = nI n) ∧ V' 29 0 = nI u' ∧ ACT V V' u u' q w_100 w_261 := by
  obtain ⟨L, h⟩ := h
  have h0 := h
  obtain ⟨m, v, hm, hv, e1, e2, e3, hp⟩ := id h.1.2.1
  obtain ⟨a, b, c, d, e, ha, hb1, hb2, hc, hd, he, q1, q2, q3, q4, q5, s1, s2, s3, s4, s5⟩ := id h.1.2.2.2.2.1
  obtain ⟨u2, m', hu', hm', w1, eu, eu2, old⟩ := id h.1.2.2.2.2.2.2.1
  have uu : u2 = u := (nb_inj (by omega) (by omega)).mp (eu.symm.trans hu)
  rw [uu] at eu eu2
  have ie := ins_eq (c1 := V 1) hp
  generalize hn : fb_ct (fun p => decide (¬ V 6 p = 0)) m = n at ie
  have hn8 : n ≤ 8 := by
    rw [← hn]
    exact Nat.le_trans (fb_ct_le _ _) hm
  by_cases m0 : m = 0
  · refine ⟨V, u, -3, hu6, ⟨L, h0⟩, Or.inl rfl, hu, VF_r, fun T r I K cn k => ?_, fun G K rn k => ?_⟩
    · exact q100 (n := n) hu6 cn.2.1 hm (by rw [cn.1 1 (by decide) (by decide)]; exact e1) he (by rw [cn.1 1 (by decide) (by decide)]; exact q5) (by rw [cn.1 6 (by decide) (by decide)]; exact hn) (fun _ => k I cn (fun _ _ _ => rfl)) (fun z => by omega)
    · exact q261 (n := n) hu6 rn.2.1 hm (by rw [rn.1]; exact e2) he (by rw [rn.1]; exact s5) (by rw [rn.1]; exact ie.symm) (fun _ => k G rn (fun _ _ _ _ _ => rfl) (fun _ _ => rfl) (fun _ _ => rfl)) (fun z => by omega)
  · obtain ⟨t, s, g1, g2, g3, g4⟩ := ts_of hu6
    have kc : kep V (kpC V t s 2 0 (nI e) 0 0) t s 2 0 (nI e) 0 0 := kpC_k
    obtain ⟨C, eC⟩ : ∃ C, C = kpC V t s 2 0 (nI e) 0 0 := ⟨_, rfl⟩
    rw [← eC] at kc
    have rm : rmb (am_u (am_u (am_u (am_u C 1 18 (nI (brd e n m))) 0 12 0) 0 10 0) 66 0 0) (kpR (am_u (am_u (am_u (am_u C 1 18 (nI (brd e n m))) 0 12 0) 0 10 0) 66 0 0) t s 2) t s 2 := kpR_k g1
    obtain ⟨M, eM⟩ : ∃ M, M = kpR (am_u (am_u (am_u (am_u C 1 18 (nI (brd e n m))) 0 12 0) 0 10 0) 66 0 0) t s 2 := ⟨_, rfl⟩
    rw [← eM] at rm
    have M68 : M 68 = V 68 := by rw [rm.1 68 (by decide) (by decide) (by decide), uu_h (by decide), uu_h (by decide), uu_h (by decide), uu_h (by decide), kc.1 68 (by decide)]
    have G68 : ∀ i, i ≠ 9 → am_u M 68 9 (nI (brd e n m)) 68 i = V 68 i := fun i hi => by rw [uu_n hi, M68]
    have C1 : ∀ i, i ≠ 18 → am_u C 1 18 (nI (brd e n m)) 1 i = V 1 i := fun i hi => by rw [uu_n hi, kc.1 1 (by decide)]
    have iv : Inv IVT 0 (fun _ => (0, 0)) (fun _ _ => none) (am_u (am_u M 68 9 (nI (brd e n m))) 66 1 0) L := by
      refine inv_act2 IVT_fr h0 eu e2 hm g1 g2 g3 g4 g1 g2 g3 g4 kc (fun c n1 n6 n7 n12 => uu_h n1) C1 rm (fun c hc => uu_h hc) (fun i hi => G68 i (by omega)) ?_ ?_ (Or.inr (Or.inr (Or.inl ⟨rfl, e, he, rfl⟩))) (fun i hi => ?_)
      · rw [uu_h (show (6 : Nat) ≠ 1 by decide), uu_h (show (7 : Nat) ≠ 1 by decide), kc.1 6 (by decide), kc.1 7 (by decide)]
        exact PRm_cg h0.1.2.1 (C1 10 (by decide)) (C1 9 (by decide)) (G68 1 (by decide)) (fun i _ _ => G68 i (by omega))
      · rw [uu_h (show (12 : Nat) ≠ 1 by decide), kc.1 12 (by decide)]
        exact ⟨a, b, c, d, brd e n m, ha, hb1, hb2, hc, hd, (by unfold brd; omega), q1, q2, q3, q4, uu_e, (G68 5 (by decide)).trans s1, (G68 6 (by decide)).trans s2, (G68 7 (by decide)).trans s3, (G68 8 (by decide)).trans s4, uu_e⟩
      · unfold ust
        rw [if_neg (by decide), if_neg (by decide), if_pos (by decide)]
        by_cases i0 : i = 4
        · rw [if_pos i0, i0]
          exact s5
        · rw [if_neg i0]
          exact (G68 _ (by omega)).symm
    have R := actG (q := nI n) (wC := w_100) (wR := w_261) eu2 g1 g2 kc (fun c n1 n6 n7 n12 => uu_h n1) (C1 15 (by decide)) rm (fun c hc => uu_h hc) (fun i hi => G68 i (by omega)) iv (fun T r I K cn k => ?_) (fun I K rn k => ?_)
    · exact ⟨_, t + 1, nI n, by omega, R.1, Or.inr ⟨n, hn8, rfl⟩, R.2.1, R.2.2⟩
    · refine q100 (n := n) hu6 cn.2.1 hm (by rw [cn.1 1 (by decide) (by decide)]; exact e1) he (by rw [cn.1 1 (by decide) (by decide)]; exact q5) (by rw [cn.1 6 (by decide) (by decide)]; exact hn) (fun z => by omega) (fun _ J t' s' y1 y2 y3 y4 kj => ?_)
      have et : t' = t ∧ s' = s := by omega
      rw [et.1, et.2] at kj
      refine k J _ kj (fun c hc => uu_h (by omega)) (fun c c1 c2 n1 => ?_)
      by_cases z : c = 1
      · rw [z]
        funext i
        by_cases i0 : i = 18
        · rw [i0, uu_e, uu_e]
        · rw [uu_n i0, uu_n i0, n1 1 (by decide) (by decide)]
      · rw [uu_h z, uu_h z]; exact n1 c c1 c2
    · refine q261 (n := n) hu6 rn.2.1 hm (by rw [rn.1]; exact e2) he (by rw [rn.1]; exact s5) (by rw [rn.1]; exact ie.symm) (fun z => by omega) (fun _ F t' s' y1 y2 y3 y4 kf => ?_)
      have et : t' = t ∧ s' = s := by omega
      rw [et.1, et.2] at kf
      refine k F _ kf (fun c hc => uu_h hc) (fun e68 => ?_)
      funext i
      by_cases i9 : i = 9
      · rw [i9, uu_e, uu_e]
      · rw [uu_n i9, uu_n i9, e68, M68]
