/-! orders: acts on both sides, each by its own contract -/
/-- what an act leaves as it was, on paper -/
def VF (V V' : am_I) : Prop := (∀ i, (i < 5 ∨ 26 ≤ i) → V' 68 i = V 68 i) ∧ V' 1 15 = V 1 15
theorem VF_r {V : am_I} : VF V V := ⟨fun _ _ => rfl, rfl⟩
theorem VF_t {V V' W : am_I} (a : VF V V') (b : VF V' W) : VF V W := ⟨fun i hi => (b.1 i hi).trans (a.1 i hi), b.2.trans a.2⟩
def ACT (V V' : am_I) (u u' : Nat) (q : Int32) (wC : (Nat → Nat × Nat) → (Nat → Nat → Option Nat) → am_I → (Int32 → am_I → Prop) → Prop) (wR : am_I → (Int32 → am_I → Prop) → Prop) : Prop := VF V V' ∧ (∀ T r I K, CNv I V u → (∀ J, CNv J V' u' → (∀ c, ¬ (1 ≤ c ∧ c ≤ 12) → ¬ (29 ≤ c ∧ c ≤ 34) → J c = I c) → K q J) → wC T r I K) ∧ ∀ G K, RNv G V u → (∀ F, RNv F V' u' → (∀ c, c ≠ 66 → c ≠ 68 → c ≠ 71 → c ≠ 72 → F c = G c) → (∀ i, i ≠ 8 → F 66 i = G 66 i) → (∀ k, 336 ≤ k → F 71 k = G 71 k) → K q F) → wR G K
/-- what an act that is done makes of V: C1 the class's half with its numbers, x the reference's new numbers -/
def vac (C1 : am_I) (t s : Nat) (x0 : Int32) (g : am_I → am_I) : am_I := am_u (g (kpR (am_u (am_u (am_u C1 0 12 0) 0 10 0) 66 0 0) t s x0)) 66 1 0
theorem act3 {V : am_I} {u : Nat} (h : IV V) (hu : V 29 0 = nI u) (hu6 : u ≤ 16) : ∃ V' u' q, u' ≤ 16 ∧ IV V' ∧ (q = -3 ∨ 0 ≤ q) ∧ V' 29 0 = nI u' ∧ ACT V V' u u' q w_102 w_265 := by
  obtain ⟨L, h⟩ := h
  have h0 := h
  obtain ⟨m, v, hm, hv, e1, e2, e3, hp⟩ := id h.1.2.1
  obtain ⟨a, b, c, d, e, ha, hb1, hb2, hc, hd, he, q1, q2, q3, q4, q5, s1, s2, s3, s4, s5⟩ := id h.1.2.2.2.2.1
  obtain ⟨u2, m', hu', hm', w1, eu, eu2, old⟩ := id h.1.2.2.2.2.2.2.1
  have uu : u2 = u := (nb_inj (by omega) (by omega)).mp (eu.symm.trans hu)
  rw [uu] at eu eu2
  by_cases a9 : a = 9999
  · refine ⟨V, u, -3, hu6, ⟨L, h0⟩, Or.inl rfl, hu, VF_r, fun T r I K cn k => ?_, fun G K rn k => ?_⟩
    · exact q102 hu6 cn.2.1 ha (by rw [cn.1 12 (by decide) (by decide)]; exact q1) (fun _ => k I cn (fun _ _ _ => rfl)) (fun z => by omega)
    · exact q265 hu6 rn.2.1 ha (by rw [rn.1]; exact s1) (fun _ => k G rn (fun _ _ _ _ _ => rfl) (fun _ _ => rfl) (fun _ _ => rfl)) (fun z => by omega)
  · obtain ⟨t, s, g1, g2, g3, g4⟩ : ∃ t s, t ≤ 15 ∧ t + s = u ∧ s ≤ 1 ∧ (s = 0 ∨ u = 16) := by
      by_cases z : u = 16
      · exact ⟨15, 1, by omega, by omega, by omega, Or.inr z⟩
      · exact ⟨u, 0, by omega, by omega, by omega, Or.inl rfl⟩
    have kc : kep V (kpC V t s 3 0 (nI a) 0 0) t s 3 0 (nI a) 0 0 := kpC_k
    obtain ⟨C, eC⟩ : ∃ C, C = kpC V t s 3 0 (nI a) 0 0 := ⟨_, rfl⟩
    rw [← eC] at kc
    obtain ⟨Z, hZ⟩ : ∃ Z, Z = am_u (am_u (am_u (am_u C 12 0 (nI (a + 1))) 0 12 0) 0 10 0) 66 0 0 := ⟨_, rfl⟩
    have rm : rmb Z (kpR Z t s 3) t s 3 := kpR_k g1
    obtain ⟨M, eM⟩ : ∃ M, M = kpR Z t s 3 := ⟨_, rfl⟩
    rw [← eM] at rm
    have Zo : ∀ c, c ≠ 0 → c ≠ 12 → c ≠ 66 → Z c = C c := fun c c0 c12 c66 => by rw [hZ, uu_h c66, uu_h c0, uu_h c0, uu_h c12]
    have Z12 : Z 12 = am_u C 12 0 (nI (a + 1)) 12 := by rw [hZ, uu_h (by decide), uu_h (by decide), uu_h (by decide)]
    have M68 : M 68 = V 68 := by rw [rm.1 68 (by decide) (by decide) (by decide), Zo 68 (by decide) (by decide) (by decide), kc.1 68 (by decide)]
    have G68 : ∀ i, i ≠ 5 → am_u M 68 5 (nI (a + 1)) 68 i = V 68 i := fun i hi => by rw [uu_n hi, M68]
    have iv : Inv IVT 0 (fun _ => (0, 0)) (fun _ _ => none) (am_u (am_u M 68 5 (nI (a + 1))) 66 1 0) L := by
      rw [hZ] at rm
      refine inv_act2 IVT_fr h0 eu e2 hm g1 g2 g3 g4 g1 g2 g3 g4 kc (fun c n1 n6 n7 n12 => uu_h n12) (fun i _ => ?_) rm (fun c hc => uu_h hc) (fun i hi => G68 i (by omega)) ?_ ?_ (Or.inr (Or.inr (Or.inr ⟨rfl, a, ha, rfl⟩))) (fun i hi => ?_)
      · rw [uu_h (by decide), kc.1 1 (by decide)]
      · rw [uu_h (by decide), uu_h (by decide), uu_h (by decide), kc.1 1 (by decide), kc.1 6 (by decide), kc.1 7 (by decide)]
        exact PRm_cg h0.1.2.1 rfl rfl (G68 1 (by decide)) (fun i _ _ => G68 i (by omega))
      · rw [uu_h (show (1 : Nat) ≠ 12 by decide), kc.1 1 (by decide)]
        refine ⟨a + 1, b, c, d, e, by omega, hb1, hb2, hc, hd, he, uu_e, ?_, ?_, ?_, q5, uu_e, (G68 6 (by decide)).trans s2, (G68 7 (by decide)).trans s3, (G68 8 (by decide)).trans s4, (G68 9 (by decide)).trans s5⟩
        · rw [uu_n (by decide), kc.1 12 (by decide)]
          exact q2
        · rw [uu_n (by decide), kc.1 12 (by decide)]
          exact q3
        · rw [uu_n (by decide), kc.1 12 (by decide)]
          exact q4
      · unfold ust
        rw [if_neg (by decide), if_neg (by decide), if_neg (by decide)]
        by_cases i0 : i = 0
        · rw [if_pos i0, i0]
          exact s1
        · rw [if_neg i0]
          exact (G68 _ (by omega)).symm
    have Vo : ∀ c, c ≠ 66 → c ≠ 68 → c ≠ 71 → c ≠ 72 → am_u (am_u M 68 5 (nI (a + 1))) 66 1 0 c = Z c := fun c c1 c2 c3 c4 => by rw [uu_h c1, uu_h c2, rm.1 c c1 c3 c4]
    have Z8 : Z 66 8 = nI u := by rw [hZ, uu_n (by decide), uu_c (by decide), uu_c (by decide), uu_c (by decide), kc.1 66 (by decide)]; exact eu2
    refine ⟨am_u (am_u M 68 5 (nI (a + 1))) 66 1 0, t + 1, nI (a + 1), by omega, ⟨L, iv⟩, Or.inr (nI_pos' (by omega)), ?_, ⟨fun i hi => by rw [uu_h (by decide)]; exact G68 i (by omega), by rw [Vo 1 (by decide) (by decide) (by decide) (by decide), Zo 1 (by decide) (by decide) (by decide), kc.1 1 (by decide)]⟩, fun T r I K cn k => ?_, fun G K rn k => ?_⟩
    · rw [Vo 29 (by decide) (by decide) (by decide) (by decide), Zo 29 (by decide) (by decide) (by decide)]; exact kc.2.1
    · refine q102 hu6 cn.2.1 ha (by rw [cn.1 12 (by decide) (by decide)]; exact q1) (fun z => by omega) (fun _ J t' s' y1 y2 y3 y4 kj => ?_)
      have et : t' = t ∧ s' = s := by omega
      rw [et.1, et.2] at kj
      obtain ⟨n1, n2, n3, n4⟩ := CNv_k cn g2 kj kc
      refine k _ ⟨fun c c1 c2 => ?_, ?_, ?_, fun j hj => ?_⟩ (fun c c1 c2 => ?_)
      · rw [Vo c (by omega) (by omega) (by omega) (by omega)]
        by_cases z : c = 12
        · rw [z, Z12]
          funext i
          by_cases i0 : i = 0
          · rw [i0, uu_e, uu_e]
          · rw [uu_n i0, uu_n i0, n1 12 (by decide) (by decide)]
        · rw [uu_h z, Zo c (by omega) z (by omega)]
          exact n1 c c1 c2
      · rw [uu_c (by decide)]; exact n2
      · rw [Vo 29 (by decide) (by decide) (by decide) (by decide), Zo 29 (by decide) (by decide) (by decide)]; exact n3
      · rw [uu_h (show (30 : Nat) ≠ 12 by decide), uu_h (show (31 : Nat) ≠ 12 by decide), uu_h (show (32 : Nat) ≠ 12 by decide), uu_h (show (33 : Nat) ≠ 12 by decide), uu_h (show (34 : Nat) ≠ 12 by decide), Vo 30 (by decide) (by decide) (by decide) (by decide), Vo 31 (by decide) (by decide) (by decide) (by decide), Vo 32 (by decide) (by decide) (by decide) (by decide), Vo 33 (by decide) (by decide) (by decide) (by decide), Vo 34 (by decide) (by decide) (by decide) (by decide), Zo 30 (by decide) (by decide) (by decide), Zo 31 (by decide) (by decide) (by decide), Zo 32 (by decide) (by decide) (by decide), Zo 33 (by decide) (by decide) (by decide), Zo 34 (by decide) (by decide) (by decide)]
        exact n4 j hj
      · rw [uu_h (by omega)]
        exact kj.1 c (by omega)
    · have rz : RNv G Z u := ⟨by rw [Zo 68 (by decide) (by decide) (by decide), kc.1 68 (by decide)]; exact rn.1, rn.2.1, Z8, fun k hk => by rw [Zo 71 (by decide) (by decide) (by decide), kc.1 71 (by decide)]; exact rn.2.2.2.1 k hk, fun j hj => by rw [Zo 72 (by decide) (by decide) (by decide), kc.1 72 (by decide)]; exact rn.2.2.2.2 j hj⟩
      refine q265 hu6 rn.2.1 ha (by rw [rn.1]; exact s1) (fun z => by omega) (fun _ F t' s' y1 y2 y3 y4 kf => ?_)
      have et : t' = t ∧ s' = s := by omega
      rw [et.1, et.2] at kf
      obtain ⟨n1, n2, n3, n4, n5⟩ := RNv_k rz g2 kf rm
      refine k _ ⟨?_, ?_, ?_, fun k hk => ?_, fun j hj => ?_⟩ (fun c c1 c2 c3 c4 => ?_) (fun i hi => ?_) (fun k hk => ?_)
      · rw [uu_h (show (68 : Nat) ≠ 66 by decide)]
        funext i
        by_cases i5 : i = 5
        · rw [i5, uu_e, uu_e]
        · rw [uu_n i5, uu_n i5, n1]
      · rw [uu_c (by decide)]; exact n2
      · rw [uu_n (by decide), uu_c (by decide)]; exact n3
      · rw [uu_c (by decide), uu_c (by decide), uu_c (by decide)]; exact n4 k hk
      · rw [uu_c (by decide), uu_c (by decide), uu_c (by decide)]; exact n5 j hj
      · rw [uu_h c2]; exact kf.1 c c1 c3 c4
      · rw [uu_c (by decide)]; exact kf.2.1 i hi
      · rw [uu_c (by decide)]; exact kf.2.2.2.2.2.2.2 k hk
