/-! how many are inside; count; drawn -/
theorem l86 {a : Nat} {T : Nat → Nat × Nat} {r : Nat → Nat → Option Nat} {I : am_I} {m : Nat} {E : Int32 → Int32 → Prop} (hm : m ≤ 8) (e : I 1 10 = nI m) (h1 : (am_ts T a).1 = 20) (h2 : 8 ≤ (am_ts T a).2) (hE : E (nI (fb_ct (fun p => decide (¬ I a p = 0)) m)) (nI m)) : ∀ k j, j + k = m → lw_86_4 (k + 1) a (nI (fb_ct (fun p => decide (¬ I a p = 0)) j)) (nI j) T r I E
  | 0, j, h => by
    have hj : j = m := by omega
    subst hj
    unfold lw_86_4
    rw [if_pos (by rw [e]; exact nI_le (Nat.le_refl _) (by omega))]
    exact hE
  | k + 1, j, h => by
    have ih := l86 (r := r) hm e h1 h2 hE k (j + 1) (by omega)
    unfold lw_86_4
    rw [if_neg (by rw [e]; exact nI_ge (by omega) (by omega))]
    refine ⟨h1, ?_, ?_⟩
    · rw [nI_clamp (by omega)]
      intro q
      rcases q with q | q
      · exact nI_pos (by omega) q
      · omega
    · rw [nI_clamp (by omega : j < 2 ^ 31)]
      rw [fb_ct_succ, nI_succ j] at ih
      by_cases c : I a j = 0
      · rw [if_pos c]
        simp only [c, not_true_eq_false, decide_false] at ih
        exact ih
      · rw [if_neg c]
        simp only [c, not_false_eq_true, decide_true, if_true] at ih
        rw [nI_succ] at ih
        exact ih
theorem q86 {a : Nat} {T : Nat → Nat × Nat} {r : Nat → Nat → Option Nat} {I : am_I} {m : Nat} {K : Int32 → Prop} (hm : m ≤ 8) (e : I 1 10 = nI m) (h1 : (am_ts T a).1 = 20) (h2 : 8 ≤ (am_ts T a).2) (hK : K (nI (fb_ct (fun p => decide (¬ I a p = 0)) m))) : w_86 a T r I K := by
  unfold w_86
  exact ⟨m + 1, l86 (E := fun o1 o2 => K o1) hm e h1 h2 hK m 0 (by omega)⟩
theorem l263 {I : am_I} {m : Nat} {E : Int32 → Int32 → Prop} (hm : m ≤ 8) (e : I 68 1 = nI m) (hE : E (nI (fb_ct (fun p => decide (¬ I 68 (10 + p) = 0)) m)) (nI m)) : ∀ k j, j + k = m → lw_263_4 (k + 1) (nI (fb_ct (fun p => decide (¬ I 68 (10 + p) = 0)) j)) (nI j) I E
  | 0, j, h => by
    have hj : j = m := by omega
    subst hj
    unfold lw_263_4
    rw [if_pos (by rw [e]; exact nI_le (Nat.le_refl _) (by omega))]
    exact hE
  | k + 1, j, h => by
    have ih := l263 hm e hE k (j + 1) (by omega)
    unfold lw_263_4
    rw [if_neg (by rw [e]; exact nI_ge (by omega) (by omega))]
    obtain ⟨g, c⟩ := ixa (a := 10) (n := j) (by omega)
    refine ⟨g, ?_⟩
    rw [show Int32.toNatClampNeg (10 + nI j) = 10 + j from c]
    rw [fb_ct_succ, nI_succ j] at ih
    by_cases c : I 68 (10 + j) = 0
    · rw [if_pos c]
      simp only [c, not_true_eq_false, decide_false] at ih
      rw [show ∀ x : Nat, nI x + 0 = nI x from fun x => nb_add x 0]
      exact ih
    · rw [if_neg c]
      simp only [c, not_false_eq_true, decide_true, if_true] at ih
      rw [nI_succ] at ih
      exact ih
theorem q263 {I : am_I} {m : Nat} {K : Int32 → Prop} (hm : m ≤ 8) (e : I 68 1 = nI m) (hK : K (nI (fb_ct (fun p => decide (¬ I 68 (10 + p) = 0)) m))) : w_263 I K := by
  unfold w_263
  exact ⟨m + 1, l263 (E := fun o1 o2 => K o1) hm e hK m 0 (by omega)⟩
/-- as many inside in both -/
theorem ins_eq {c1 c4 c5 c6 c7 c8 R : Nat → Int32} {m v : Nat} (hp : ∀ p, p < m → R (50 + p) = nI (bi v p) ∧ PRp c4 c5 c6 c7 c8 R p) : fb_ct (fun p => decide (¬ c6 p = 0)) m = fb_ct (fun p => decide (¬ R (10 + p) = 0)) m := by
  refine fb_ct_cong (fun p hpm => ?_)
  obtain ⟨_, y, w, a, k, t, _, _, _, _, _, _, _, _, q3, _, _, _, _, s3, _, _⟩ := hp p hpm
  rw [q3, s3]
theorem o_40 {D : am_P} (hD : FrD D) {N : Nat} {T : Nat → Nat × Nat} {r : Nat → Nat → Option Nat} {I : am_I} {L : am_J} (h : Inv D N T r I L) (x1 : Int32) : op_40 x1 (Inv D) N T r I L := by
  unfold op_40 w_175
  have h' := inv_0 hD h
  obtain ⟨m, v, hm, hv, e1, e2, e3, hp⟩ := h.1.2.1
  obtain ⟨_, _, _, _, hd, hd2, _, _⟩ := h.1.1
  obtain ⟨_, _, _, _, hc1, hc2, _, _⟩ := h.1.2.2.1
  obtain ⟨_, _, hl1, hl2, hl3, _⟩ := h.1.2.2.2.1
  obtain ⟨_, _, _, _, _, _, _, _, _, _, _, q1, q2, q3, q4, q5, s1, s2, s3, s4, s5⟩ := h.1.2.2.2.2.1
  obtain ⟨_, _, ht1, ht2, _⟩ := h.1.2.2.2.2.2.1
  obtain ⟨_, _, _, _, _, hu1, hu2, _⟩ := h.1.2.2.2.2.2.2.1
  obtain ⟨m1, m2, m3, m4, m5, m6, m7⟩ := h.1.2.2.2.2.2.2.2.2.1
  rcases q13 x1 0 17 (by decide) (by decide) with ⟨_, g⟩ | ⟨_, k, _, hk, rfl⟩
  · have g7 : f_13 x1 7 11 = 0 := by
      rcases q13 x1 7 11 (by decide) (by decide) with ⟨a, _⟩ | ⟨_, k, h1, h2, e⟩
      · exact a
      · exact absurd e (g k (by omega) (by omega))
    have g14 : f_13 x1 14 17 = 0 := by
      rcases q13 x1 14 17 (by decide) (by decide) with ⟨a, _⟩ | ⟨_, k, h1, h2, e⟩
      · exact a
      · exact absurd e (g k (by omega) (by omega))
    have n : ∀ k : Nat, k ≤ 17 → ¬ x1 = nI k := fun k hk => g k (by omega) hk
    rw [if_pos g7, if_pos g14]
    rw [if_neg (show ¬ x1 = 0 from n 0 (by decide)), if_neg (show ¬ x1 = 1 from n 1 (by decide)), if_neg (show ¬ x1 = 2 from n 2 (by decide)), if_neg (show ¬ x1 = 3 from n 3 (by decide)), if_neg (show ¬ x1 = 4 from n 4 (by decide)), if_neg (show ¬ x1 = 5 from n 5 (by decide)), if_neg (show ¬ x1 = 6 from n 6 (by decide)), if_neg (show ¬ x1 = 7 from n 7 (by decide)), if_neg (show ¬ x1 = 8 from n 8 (by decide)), if_neg (show ¬ x1 = 9 from n 9 (by decide)), if_neg (show ¬ x1 = 10 from n 10 (by decide)), if_neg (show ¬ x1 = 11 from n 11 (by decide)), if_neg (show ¬ x1 = 12 from n 12 (by decide)), if_neg (show ¬ x1 = 13 from n 13 (by decide))]
    show w_302 _ _ _
    unfold w_302
    rw [if_neg (show ¬ x1 = 0 from n 0 (by decide)), if_neg (show ¬ x1 = 1 from n 1 (by decide)), if_neg (show ¬ x1 = 2 from n 2 (by decide)), if_neg (show ¬ x1 = 3 from n 3 (by decide)), if_neg (show ¬ x1 = 4 from n 4 (by decide)), if_neg (show ¬ x1 = 5 from n 5 (by decide)), if_neg (show ¬ x1 = 6 from n 6 (by decide)), if_neg (show ¬ x1 = 7 from n 7 (by decide)), if_neg (show ¬ x1 = 8 from n 8 (by decide)), if_neg (show ¬ x1 = 9 from n 9 (by decide)), if_neg (show ¬ x1 = 10 from n 10 (by decide)), if_neg (show ¬ x1 = 11 from n 11 (by decide)), if_neg (show ¬ x1 = 12 from n 12 (by decide)), if_neg (show ¬ x1 = 13 from n 13 (by decide))]
    rw [if_pos (show f_182 x1.toInt64 14 17 = 0 from (q182 x1 14 17).trans g14)]
    exact ⟨rfl, h'⟩
  rcases (by omega : k = 0 ∨ k = 1 ∨ k = 2 ∨ k = 3 ∨ k = 4 ∨ k = 5 ∨ k = 6 ∨ k = 7 ∨ k = 8 ∨ k = 9 ∨ k = 10 ∨ k = 11 ∨ k = 12 ∨ k = 13 ∨ k = 14 ∨ k = 15 ∨ k = 16 ∨ k = 17) with rfl | rfl | rfl | rfl | rfl | rfl | rfl | rfl | rfl | rfl | rfl | rfl | rfl | rfl | rfl | rfl | rfl | rfl
  · refine am_ifp (by decide) (am_ifp (by decide) ?_)
    rw [if_pos (show nI 0 = 0 from rfl)]
    show w_302 _ _ _
    unfold w_302
    rw [if_pos (show nI 0 = 0 from rfl)]
    exact ⟨(hd.trans hd2.symm), h'⟩
  · refine am_ifp (by decide) (am_ifp (by decide) ?_)
    rw [if_neg (show ¬ nI 1 = 0 by decide), if_pos (show nI 1 = 1 from rfl)]
    show w_302 _ _ _
    unfold w_302
    rw [if_neg (show ¬ nI 1 = 0 by decide), if_pos (show nI 1 = 1 from rfl)]
    exact ⟨(e1.trans e2.symm), h'⟩
  · refine am_ifp (by decide) (am_ifp (by decide) ?_)
    rw [if_neg (show ¬ nI 2 = 0 by decide), if_neg (show ¬ nI 2 = 1 by decide), if_pos (show nI 2 = 2 from rfl)]
    refine q86 (a := 6) hm e1 rfl (show 8 ≤ 8 from Nat.le_refl 8) ?_
    show w_302 _ _ _
    unfold w_302
    refine am_ifn (show ¬ nI 2 = 0 by decide) (am_ifn (show ¬ nI 2 = 1 by decide) (am_ifp (show nI 2 = 2 from rfl) ?_))
    refine q263 (I := am_u I 66 0 0) hm e2 ?_
    refine ⟨congrArg nI ?_, h'⟩
    exact ins_eq (c1 := I 1) hp
  · refine am_ifp (by decide) (am_ifp (by decide) ?_)
    rw [if_neg (show ¬ nI 3 = 0 by decide), if_neg (show ¬ nI 3 = 1 by decide), if_neg (show ¬ nI 3 = 2 by decide), if_pos (show nI 3 = 3 from rfl)]
    show w_302 _ _ _
    unfold w_302
    rw [if_neg (show ¬ nI 3 = 0 by decide), if_neg (show ¬ nI 3 = 1 by decide), if_neg (show ¬ nI 3 = 2 by decide), if_pos (show nI 3 = 3 from rfl)]
    exact ⟨(hc1.trans hc2.symm), h'⟩
  · refine am_ifp (by decide) (am_ifp (by decide) ?_)
    rw [if_neg (show ¬ nI 4 = 0 by decide), if_neg (show ¬ nI 4 = 1 by decide), if_neg (show ¬ nI 4 = 2 by decide), if_neg (show ¬ nI 4 = 3 by decide), if_pos (show nI 4 = 4 from rfl)]
    show w_302 _ _ _
    unfold w_302
    rw [if_neg (show ¬ nI 4 = 0 by decide), if_neg (show ¬ nI 4 = 1 by decide), if_neg (show ¬ nI 4 = 2 by decide), if_neg (show ¬ nI 4 = 3 by decide), if_pos (show nI 4 = 4 from rfl)]
    exact ⟨(hl1.trans hl2.symm), h'⟩
  · refine am_ifp (by decide) (am_ifp (by decide) ?_)
    rw [if_neg (show ¬ nI 5 = 0 by decide), if_neg (show ¬ nI 5 = 1 by decide), if_neg (show ¬ nI 5 = 2 by decide), if_neg (show ¬ nI 5 = 3 by decide), if_neg (show ¬ nI 5 = 4 by decide), if_pos (show nI 5 = 5 from rfl)]
    show w_302 _ _ _
    unfold w_302
    rw [if_neg (show ¬ nI 5 = 0 by decide), if_neg (show ¬ nI 5 = 1 by decide), if_neg (show ¬ nI 5 = 2 by decide), if_neg (show ¬ nI 5 = 3 by decide), if_neg (show ¬ nI 5 = 4 by decide), if_pos (show nI 5 = 5 from rfl)]
    exact ⟨(hu1.trans hu2.symm), h'⟩
  · refine am_ifp (by decide) (am_ifp (by decide) ?_)
    rw [if_neg (show ¬ nI 6 = 0 by decide), if_neg (show ¬ nI 6 = 1 by decide), if_neg (show ¬ nI 6 = 2 by decide), if_neg (show ¬ nI 6 = 3 by decide), if_neg (show ¬ nI 6 = 4 by decide), if_neg (show ¬ nI 6 = 5 by decide), if_pos (show nI 6 = 6 from rfl)]
    show w_302 _ _ _
    unfold w_302
    rw [if_neg (show ¬ nI 6 = 0 by decide), if_neg (show ¬ nI 6 = 1 by decide), if_neg (show ¬ nI 6 = 2 by decide), if_neg (show ¬ nI 6 = 3 by decide), if_neg (show ¬ nI 6 = 4 by decide), if_neg (show ¬ nI 6 = 5 by decide), if_pos (show nI 6 = 6 from rfl)]
    exact ⟨(ht1.trans ht2.symm), h'⟩
  · refine am_ifn (by decide) ⟨by decide, ?_⟩
    show w_302 _ _ _
    unfold w_302
    rw [if_neg (show ¬ nI 7 = 0 by decide), if_neg (show ¬ nI 7 = 1 by decide), if_neg (show ¬ nI 7 = 2 by decide), if_neg (show ¬ nI 7 = 3 by decide), if_neg (show ¬ nI 7 = 4 by decide), if_neg (show ¬ nI 7 = 5 by decide), if_neg (show ¬ nI 7 = 6 by decide), if_pos (show nI 7 = 7 from rfl)]
    exact ⟨m2, h'⟩
  · refine am_ifn (by decide) ⟨by decide, ?_⟩
    show w_302 _ _ _
    unfold w_302
    rw [if_neg (show ¬ nI 8 = 0 by decide), if_neg (show ¬ nI 8 = 1 by decide), if_neg (show ¬ nI 8 = 2 by decide), if_neg (show ¬ nI 8 = 3 by decide), if_neg (show ¬ nI 8 = 4 by decide), if_neg (show ¬ nI 8 = 5 by decide), if_neg (show ¬ nI 8 = 6 by decide), if_neg (show ¬ nI 8 = 7 by decide), if_pos (show nI 8 = 8 from rfl)]
    exact ⟨m3, h'⟩
  · refine am_ifn (by decide) ⟨by decide, ?_⟩
    show w_302 _ _ _
    unfold w_302
    rw [if_neg (show ¬ nI 9 = 0 by decide), if_neg (show ¬ nI 9 = 1 by decide), if_neg (show ¬ nI 9 = 2 by decide), if_neg (show ¬ nI 9 = 3 by decide), if_neg (show ¬ nI 9 = 4 by decide), if_neg (show ¬ nI 9 = 5 by decide), if_neg (show ¬ nI 9 = 6 by decide), if_neg (show ¬ nI 9 = 7 by decide), if_neg (show ¬ nI 9 = 8 by decide), if_pos (show nI 9 = 9 from rfl)]
    exact ⟨m4, h'⟩
  · refine am_ifn (by decide) ⟨by decide, ?_⟩
    show w_302 _ _ _
    unfold w_302
    rw [if_neg (show ¬ nI 10 = 0 by decide), if_neg (show ¬ nI 10 = 1 by decide), if_neg (show ¬ nI 10 = 2 by decide), if_neg (show ¬ nI 10 = 3 by decide), if_neg (show ¬ nI 10 = 4 by decide), if_neg (show ¬ nI 10 = 5 by decide), if_neg (show ¬ nI 10 = 6 by decide), if_neg (show ¬ nI 10 = 7 by decide), if_neg (show ¬ nI 10 = 8 by decide), if_neg (show ¬ nI 10 = 9 by decide), if_pos (show nI 10 = 10 from rfl)]
    exact ⟨m5, h'⟩
  · refine am_ifn (by decide) ⟨by decide, ?_⟩
    show w_302 _ _ _
    unfold w_302
    rw [if_neg (show ¬ nI 11 = 0 by decide), if_neg (show ¬ nI 11 = 1 by decide), if_neg (show ¬ nI 11 = 2 by decide), if_neg (show ¬ nI 11 = 3 by decide), if_neg (show ¬ nI 11 = 4 by decide), if_neg (show ¬ nI 11 = 5 by decide), if_neg (show ¬ nI 11 = 6 by decide), if_neg (show ¬ nI 11 = 7 by decide), if_neg (show ¬ nI 11 = 8 by decide), if_neg (show ¬ nI 11 = 9 by decide), if_neg (show ¬ nI 11 = 10 by decide), if_pos (show nI 11 = 11 from rfl)]
    exact ⟨m6, h'⟩
  · refine am_ifp (by decide) (am_ifp (by decide) ?_)
    rw [if_neg (show ¬ nI 12 = 0 by decide), if_neg (show ¬ nI 12 = 1 by decide), if_neg (show ¬ nI 12 = 2 by decide), if_neg (show ¬ nI 12 = 3 by decide), if_neg (show ¬ nI 12 = 4 by decide), if_neg (show ¬ nI 12 = 5 by decide), if_neg (show ¬ nI 12 = 6 by decide), if_neg (show ¬ nI 12 = 7 by decide), if_neg (show ¬ nI 12 = 8 by decide), if_neg (show ¬ nI 12 = 9 by decide), if_neg (show ¬ nI 12 = 10 by decide), if_neg (show ¬ nI 12 = 11 by decide), if_pos (show nI 12 = 12 from rfl)]
    show w_302 _ _ _
    unfold w_302
    rw [if_neg (show ¬ nI 12 = 0 by decide), if_neg (show ¬ nI 12 = 1 by decide), if_neg (show ¬ nI 12 = 2 by decide), if_neg (show ¬ nI 12 = 3 by decide), if_neg (show ¬ nI 12 = 4 by decide), if_neg (show ¬ nI 12 = 5 by decide), if_neg (show ¬ nI 12 = 6 by decide), if_neg (show ¬ nI 12 = 7 by decide), if_neg (show ¬ nI 12 = 8 by decide), if_neg (show ¬ nI 12 = 9 by decide), if_neg (show ¬ nI 12 = 10 by decide), if_neg (show ¬ nI 12 = 11 by decide), if_pos (show nI 12 = 12 from rfl)]
    exact ⟨hl3, h'⟩
  · refine am_ifp (by decide) (am_ifp (by decide) ?_)
    rw [if_neg (show ¬ nI 13 = 0 by decide), if_neg (show ¬ nI 13 = 1 by decide), if_neg (show ¬ nI 13 = 2 by decide), if_neg (show ¬ nI 13 = 3 by decide), if_neg (show ¬ nI 13 = 4 by decide), if_neg (show ¬ nI 13 = 5 by decide), if_neg (show ¬ nI 13 = 6 by decide), if_neg (show ¬ nI 13 = 7 by decide), if_neg (show ¬ nI 13 = 8 by decide), if_neg (show ¬ nI 13 = 9 by decide), if_neg (show ¬ nI 13 = 10 by decide), if_neg (show ¬ nI 13 = 11 by decide), if_neg (show ¬ nI 13 = 12 by decide), if_pos (show nI 13 = 13 from rfl)]
    show w_302 _ _ _
    unfold w_302
    rw [if_neg (show ¬ nI 13 = 0 by decide), if_neg (show ¬ nI 13 = 1 by decide), if_neg (show ¬ nI 13 = 2 by decide), if_neg (show ¬ nI 13 = 3 by decide), if_neg (show ¬ nI 13 = 4 by decide), if_neg (show ¬ nI 13 = 5 by decide), if_neg (show ¬ nI 13 = 6 by decide), if_neg (show ¬ nI 13 = 7 by decide), if_neg (show ¬ nI 13 = 8 by decide), if_neg (show ¬ nI 13 = 9 by decide), if_neg (show ¬ nI 13 = 10 by decide), if_neg (show ¬ nI 13 = 11 by decide), if_neg (show ¬ nI 13 = 12 by decide), if_pos (show nI 13 = 13 from rfl)]
    exact ⟨(q5.trans s5.symm), h'⟩
  · refine am_ifp (by decide) (am_ifn (by decide) ⟨by decide, ?_⟩)
    show w_302 _ _ _
    unfold w_302
    rw [if_neg (show ¬ nI 14 = 0 by decide), if_neg (show ¬ nI 14 = 1 by decide), if_neg (show ¬ nI 14 = 2 by decide), if_neg (show ¬ nI 14 = 3 by decide), if_neg (show ¬ nI 14 = 4 by decide), if_neg (show ¬ nI 14 = 5 by decide), if_neg (show ¬ nI 14 = 6 by decide), if_neg (show ¬ nI 14 = 7 by decide), if_neg (show ¬ nI 14 = 8 by decide), if_neg (show ¬ nI 14 = 9 by decide), if_neg (show ¬ nI 14 = 10 by decide), if_neg (show ¬ nI 14 = 11 by decide), if_neg (show ¬ nI 14 = 12 by decide), if_neg (show ¬ nI 14 = 13 by decide)]
    refine am_ifn (show ¬ f_182 (nI 14).toInt64 14 17 = 0 by decide) ⟨by decide, ?_⟩
    exact ⟨(q1.trans s1.symm), h'⟩
  · refine am_ifp (by decide) (am_ifn (by decide) ⟨by decide, ?_⟩)
    show w_302 _ _ _
    unfold w_302
    rw [if_neg (show ¬ nI 15 = 0 by decide), if_neg (show ¬ nI 15 = 1 by decide), if_neg (show ¬ nI 15 = 2 by decide), if_neg (show ¬ nI 15 = 3 by decide), if_neg (show ¬ nI 15 = 4 by decide), if_neg (show ¬ nI 15 = 5 by decide), if_neg (show ¬ nI 15 = 6 by decide), if_neg (show ¬ nI 15 = 7 by decide), if_neg (show ¬ nI 15 = 8 by decide), if_neg (show ¬ nI 15 = 9 by decide), if_neg (show ¬ nI 15 = 10 by decide), if_neg (show ¬ nI 15 = 11 by decide), if_neg (show ¬ nI 15 = 12 by decide), if_neg (show ¬ nI 15 = 13 by decide)]
    refine am_ifn (show ¬ f_182 (nI 15).toInt64 14 17 = 0 by decide) ⟨by decide, ?_⟩
    exact ⟨(q2.trans s2.symm), h'⟩
  · refine am_ifp (by decide) (am_ifn (by decide) ⟨by decide, ?_⟩)
    show w_302 _ _ _
    unfold w_302
    rw [if_neg (show ¬ nI 16 = 0 by decide), if_neg (show ¬ nI 16 = 1 by decide), if_neg (show ¬ nI 16 = 2 by decide), if_neg (show ¬ nI 16 = 3 by decide), if_neg (show ¬ nI 16 = 4 by decide), if_neg (show ¬ nI 16 = 5 by decide), if_neg (show ¬ nI 16 = 6 by decide), if_neg (show ¬ nI 16 = 7 by decide), if_neg (show ¬ nI 16 = 8 by decide), if_neg (show ¬ nI 16 = 9 by decide), if_neg (show ¬ nI 16 = 10 by decide), if_neg (show ¬ nI 16 = 11 by decide), if_neg (show ¬ nI 16 = 12 by decide), if_neg (show ¬ nI 16 = 13 by decide)]
    refine am_ifn (show ¬ f_182 (nI 16).toInt64 14 17 = 0 by decide) ⟨by decide, ?_⟩
    exact ⟨(q3.trans s3.symm), h'⟩
  · refine am_ifp (by decide) (am_ifn (by decide) ⟨by decide, ?_⟩)
    show w_302 _ _ _
    unfold w_302
    rw [if_neg (show ¬ nI 17 = 0 by decide), if_neg (show ¬ nI 17 = 1 by decide), if_neg (show ¬ nI 17 = 2 by decide), if_neg (show ¬ nI 17 = 3 by decide), if_neg (show ¬ nI 17 = 4 by decide), if_neg (show ¬ nI 17 = 5 by decide), if_neg (show ¬ nI 17 = 6 by decide), if_neg (show ¬ nI 17 = 7 by decide), if_neg (show ¬ nI 17 = 8 by decide), if_neg (show ¬ nI 17 = 9 by decide), if_neg (show ¬ nI 17 = 10 by decide), if_neg (show ¬ nI 17 = 11 by decide), if_neg (show ¬ nI 17 = 12 by decide), if_neg (show ¬ nI 17 = 13 by decide)]
    refine am_ifn (show ¬ f_182 (nI 17).toInt64 14 17 = 0 by decide) ⟨by decide, ?_⟩
    exact ⟨(q4.trans s4.symm), h'⟩
