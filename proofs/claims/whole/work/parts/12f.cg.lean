/-! parts of what holds, where nothing of theirs has changed -/
theorem PRd_cg {c1 c2 c3 R c1' c2' c3' R' : Nat → Int32} (h : PRd c1 c2 c3 R) (e1 : c1' 2 = c1 2) (e2 : c1' 3 = c1 3) (g2 : ∀ d, d < 12 → c2' d = c2 d) (g3 : ∀ d, d < 12 → c3' d = c3 d) (r0 : R' 0 = R 0) (r1 : ∀ i, 58 ≤ i → i < 94 → R' i = R i) : PRd c1' c2' c3' R' := by
  obtain ⟨n, w, hn, hw, a1, a2, a3, a4⟩ := h
  refine ⟨n, w, hn, hw, e1.trans a1, r0.trans a2, e2.trans a3, fun d hd => ?_⟩
  obtain ⟨b1, a, b, ha, hb, hab, b2, b3, b4, b5⟩ := a4 d hd
  exact ⟨(r1 _ (by omega) (by omega)).trans b1, a, b, ha, hb, hab, (g2 d (by omega)).trans b2, (g3 d (by omega)).trans b3, (r1 _ (by omega) (by omega)).trans b4, (r1 _ (by omega) (by omega)).trans b5⟩
theorem PRp_cg {c4 c5 c6 c7 c8 R c4' c5' c6' c7' c8' R' : Nat → Int32} {p : Nat} (h : PRp c4 c5 c6 c7 c8 R p) (hp : p < 8) (g4 : c4' p = c4 p) (g5 : c5' p = c5 p) (g6 : c6' p = c6 p) (g7 : c7' p = c7 p) (g8 : c8' p = c8 p) (r1 : ∀ i, 10 ≤ i → i < 50 → R' i = R i) : PRp c4' c5' c6' c7' c8' R' p := by
  obtain ⟨y, w, a, k, t, h1, h2, h3, h4, h5, h6, q1, q2, q3, q4, q5, s1, s2, s3, s4, s5⟩ := h
  exact ⟨y, w, a, k, t, h1, h2, h3, h4, h5, h6, g4.trans q1, g5.trans q2, g6.trans q3, g7.trans q4, g8.trans q5, (r1 _ (by omega) (by omega)).trans s1, (r1 _ (by omega) (by omega)).trans s2, (r1 _ (by omega) (by omega)).trans s3, (r1 _ (by omega) (by omega)).trans s4, (r1 _ (by omega) (by omega)).trans s5⟩
theorem PRm_cg {c1 c4 c5 c6 c7 c8 R c1' R' : Nat → Int32} (h : PRm c1 c4 c5 c6 c7 c8 R) (e1 : c1' 10 = c1 10) (e2 : c1' 9 = c1 9) (r0 : R' 1 = R 1) (r1 : ∀ i, 10 ≤ i → i < 58 → R' i = R i) : PRm c1' c4 c5 c6 c7 c8 R' := by
  obtain ⟨m, v, hm, hv, a1, a2, a3, a4⟩ := h
  refine ⟨m, v, hm, hv, e1.trans a1, r0.trans a2, e2.trans a3, fun p hp => ?_⟩
  obtain ⟨b1, b2⟩ := a4 p hp
  exact ⟨(r1 _ (by omega) (by omega)).trans b1, PRp_cg b2 (by omega) rfl rfl rfl rfl rfl (fun i h1 h2 => r1 i h1 (by omega))⟩
theorem PRc_cg {c1 c9 c10 R c1' R' : Nat → Int32} (h : PRc c1 c9 c10 R) (e1 : c1' 13 = c1 13) (r1 : R' 1 = R 1) (r2 : R' 2 = R 2) (r3 : ∀ i, 94 ≤ i → i < 110 → R' i = R i) : PRc c1' c9 c10 R' := by
  obtain ⟨c, m, hc, hm, a1, a2, a3, a4⟩ := h
  refine ⟨c, m, hc, hm, e1.trans a1, r2.trans a2, r1.trans a3, fun k hk => ?_⟩
  obtain ⟨g, i, hg, hi, b1, b2, b3, b4⟩ := a4 k hk
  exact ⟨g, i, hg, hi, b1, b2, (r3 _ (by omega) (by omega)).trans b3, (r3 _ (by omega) (by omega)).trans b4⟩
theorem PRl_cg {c1 R c1' R' : Nat → Int32} (h : PRl c1 R) (e1 : c1' 15 = c1 15) (e2 : c1' 16 = c1 16) (r3 : R' 3 = R 3) (r4 : R' 4 = R 4) : PRl c1' R' := by
  obtain ⟨l, hl, a1, a2, a3, a4⟩ := h
  exact ⟨l, hl, e1.trans a1, r3.trans a2, by rw [e2, r4]; exact a3, by rw [r4]; exact a4⟩
theorem PRt_cg {c1 c12 R c1' R' : Nat → Int32} (h : PRt c1 c12 R) (e1 : c1' 18 = c1 18) (r : ∀ i, 5 ≤ i → i < 10 → R' i = R i) : PRt c1' c12 R' := by
  obtain ⟨a, b, c, d, e, h1, h2, h3, h4, h5, h6, q1, q2, q3, q4, q5, s1, s2, s3, s4, s5⟩ := h
  exact ⟨a, b, c, d, e, h1, h2, h3, h4, h5, h6, q1, q2, q3, q4, e1.trans q5, (r _ (by decide) (by decide)).trans s1, (r _ (by decide) (by decide)).trans s2, (r _ (by decide) (by decide)).trans s3, (r _ (by decide) (by decide)).trans s4, (r _ (by decide) (by decide)).trans s5⟩
theorem ust_cg {k w a o b : Int32} {s s' : Nat → Int32} (h : ∀ i, i < 21 → s' i = s i) {i : Nat} (hi : i < 21) : ust k w a o b s' i = ust k w a o b s i := by
  unfold ust
  rw [h i hi]
theorem UNr_cg {u1 u2 : Int32} {c30 c31 c32 c33 c34 c71 c72 R R' : Nat → Int32} (h : UNr u1 u2 c30 c31 c32 c33 c34 c71 c72 R) (r1 : R' 1 = R 1) (r : ∀ i, 5 ≤ i → i < 26 → R' i = R i) : UNr u1 u2 c30 c31 c32 c33 c34 c71 c72 R' := by
  obtain ⟨u, m, hu, hm, a1, a2, a3, a4⟩ := h
  refine ⟨u, m, hu, hm, r1.trans a1, a2, a3, fun j hj => ?_⟩
  obtain ⟨b1, b2, b3⟩ := a4 j hj
  refine ⟨b1, b2, fun i hi => (b3 i hi).trans (ust_cg (fun i hi => ?_) hi)⟩
  by_cases e : j + 1 = u
  · rw [if_pos e, if_pos e, r _ (by omega) (by omega)]
  · rw [if_neg e, if_neg e]
theorem UNr_0 {u1 u2 : Int32} {c30 c31 c32 c33 c34 c71 c72 R : Nat → Int32} {m : Nat} (hm : m ≤ 8) (h1 : R 1 = nI m) (e1 : u1 = 0) (e2 : u2 = 0) : UNr u1 u2 c30 c31 c32 c33 c34 c71 c72 R := ⟨0, m, by decide, hm, h1, e1, e2, fun j hj => absurd hj (by omega)⟩
theorem MSr_0 {c0 c65 c66 c67 c0' c66' : Nat → Int32} (h : MSr c0 c65 c66 c67) (e1 : c0' 12 = 0) (e2 : c66' 1 = 0) (e3 : c0' 13 = c0 13) (e4 : c66' 11 = c66 11) : MSr c0' c65 c66' c67 := by
  obtain ⟨a1, a2, a3, a4, a5, a6, a7⟩ := h
  exact ⟨e1.trans e2.symm, a2, a3, a4, a5, a6, e3.trans (a7.trans e4.symm)⟩
/-- the reference's bit by a sum -/
theorem q194 {I : am_I} {K : Int32 → am_I → Prop} {at_ w d b : Nat} (ha : at_ < 5510) (hw : w < 4096) (hd : d < 12) (hb : b < 2) (e : I 68 at_ = nI w) (h : K (nI (bi w d)) (am_u (am_u I 68 at_ (nI (sb w d b))) 66 1 0)) : w_194 (nI at_) (nI d) (nI b) I K := by
  unfold w_194
  have g := nb_gd ha (show 5510 < 2 ^ 31 by decide)
  have hq : (((I 68 at_) >>> (nI d &&& 31)) &&& 1) = nI (bi w d) := by
    rw [e]
    exact q20 (by omega) (by omega)
  rw [nI_clamp (by omega : at_ < 2 ^ 31)] at g ⊢
  rw [hq]
  refine ⟨g, g, ?_⟩
  have hbi := bi_lt w d
  obtain ⟨s0, s1⟩ := sb_sum w hw d hd
  by_cases hc : bi w d = b
  · rw [if_pos (by rw [hc])]
    refine ⟨g, ?_⟩
    have e2 : I 68 at_ + 0 = nI (sb w d b) := by
      rw [e, show nI w + 0 = nI (w + 0) from nb_add w 0]
      rcases (by omega : b = 0 ∨ b = 1) with rfl | rfl
      · rw [(s0 hc).2]; rfl
      · rw [(s1 hc).2]; rfl
    rw [e2]
    exact h
  · rw [if_neg (fun q => hc ((nb_inj (by omega) (by omega)).mp q))]
    rcases (by omega : b = 0 ∨ b = 1) with rfl | rfl
    · have h1 : bi w d = 1 := by omega
      rw [if_neg (by decide)]
      refine ⟨g, ?_⟩
      have e2 : I 68 at_ + (-(1 <<< (nI d &&& 31))) = nI (sb w d 0) := by
        have s := (s1 h1).1
        have e3 : nI w = nI (sb w d 0) + nI (2 ^ d) := by rw [nb_add, s]
        rw [e, q1s d (by omega), e3, Int32.add_neg_eq_sub, Int32.add_sub_cancel]
      rw [e2]
      exact h
    · have h0 : bi w d = 0 := by omega
      rw [if_pos (show nI 1 = 1 from rfl)]
      refine ⟨g, ?_⟩
      have e2 : I 68 at_ + (1 <<< (nI d &&& 31)) = nI (sb w d 1) := by
        rw [e, q1s d (by omega), nb_add, (s0 h0).1]
      rw [e2]
      exact h
theorem q188 {I : am_I} {K : Int32 → am_I → Prop} {at_ : Nat} {x : Int32} (ha : at_ < 5510) (h : K (I 68 at_) (am_u (am_u I 68 at_ x) 66 1 0)) : w_188 (nI at_) x I K := by
  unfold w_188
  have g := nb_gd ha (show 5510 < 2 ^ 31 by decide)
  rw [nI_clamp (by omega : at_ < 2 ^ 31)] at g ⊢
  exact ⟨g, g, h⟩
