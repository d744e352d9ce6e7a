/-! the law that is meant; asks -/
def DLw (T : Nat → Nat × Nat) (r : Nat → Nat → Option Nat) (I : am_I) : Prop := ∀ l, l ≤ 6 → I 1 15 = nI l → ∀ k, k < l → ∃ t X, am_rs r 11 k = some t ∧ okX X ∧ LAWc T r I t X ∧ LAWr (I 68) (110 + 900 * k) X
def hasL (D : am_P) : Prop := ∀ N T r I L, D N T r I L → DLw T r I
theorem lawX {T : Nat → Nat × Nat} {r : Nat → Nat → Option Nat} {I : am_I} {l : Nat} {x : Int32} (hD : DLw T r I) (hl : l ≤ 6) (el : I 1 15 = nI l) (hx : x = -1 ∨ ∃ k, k < l ∧ x = nI k) : ∃ fx, LOr (I 68) x fx ∧ ∀ K : Option Nat → Prop, (∀ o, LOc T r I o fx → K o) → w_108 x T r I K := by
  rcases hx with rfl | ⟨k, hk, rfl⟩
  · refine ⟨none, Or.inl ⟨rfl, rfl⟩, fun K hK => ?_⟩
    unfold w_108
    rw [if_pos (show f_106 (-1) I = 0 by unfold f_106; rw [if_pos (by decide)])]
    exact hK none (Or.inl ⟨rfl, rfl⟩)
  · obtain ⟨t, X, h1, h2, h3, h4⟩ := hD l hl el k hk
    refine ⟨some X, Or.inr ⟨k, X, rfl, by omega, rfl, h2, h4⟩, fun K hK => ?_⟩
    unfold w_108 f_106
    rw [if_neg (nI_pos (by omega)), el, if_neg (nI_ge (by omega) (by omega)), if_neg (by decide)]
    refine ⟨nb_gd (by omega) (by decide), ?_⟩
    rw [nI_clamp (by omega), h1]
    refine ⟨(fun q => by cases q), fun t1 ht => ?_⟩
    rw [← Option.some.inj ht]
    exact hK (some t) (Or.inr ⟨t, X, rfl, rfl, h2, h3⟩)
theorem inv_scr2 {D : am_P} (hD : FrD D) (hL : FrL D) {N : Nat} {T : Nat → Nat × Nat} {r : Nat → Nat → Option Nat} {I J : am_I} {L L' : am_J} (h : Inv D N T r I L) (k : ∀ c, (c ≤ 12 ∨ c = 14 ∨ c = 15 ∨ (29 ≤ c ∧ c ≤ 35) ∨ (63 ≤ c ∧ c ≤ 65) ∨ (67 ≤ c ∧ c ≤ 72) ∨ c = 75 ∨ c = 92 ∨ 98 ≤ c) → J c = I c) (k66 : ∀ i, (i = 1 ∨ i = 8 ∨ i = 11 ∨ i = 13 ∨ i = 18 ∨ i = 20 ∨ i = 56 ∨ i = 60 ∨ i = 61) → J 66 i = I 66 i) (kL : ∀ c, (c = 81 ∨ c = 82 ∨ c = 83) → L' c = L c) : Inv D N T r J L' := by
  obtain ⟨hs, hdd⟩ := h
  refine ⟨?_, hL _ _ _ _ L _ (hD _ _ _ I _ _ ⟨fun c hc => k c (by omega), by rw [k 1 (by omega)], fun i _ => by rw [k 68 (by omega)], k 69 (by omega), k 70 (by omega), Or.inr ⟨by rw [k 0 (by omega)], by rw [k 1 (by omega)], by rw [k 1 (by omega)], k 4 (by omega), k 5 (by omega), k 7 (by omega), k 12 (by omega)⟩⟩ hdd)⟩
  obtain ⟨h1, h2, h3, h4, h5, h6, h7, h8, h9, f1, f2, f3, f4, f5⟩ := hs
  unfold StR
  rw [k 0 (by omega), k 1 (by omega), k 2 (by omega), k 3 (by omega), k 4 (by omega), k 5 (by omega), k 6 (by omega), k 7 (by omega), k 8 (by omega), k 9 (by omega), k 10 (by omega), k 12 (by omega), k 14 (by omega), k 15 (by omega), k 29 (by omega), k 30 (by omega), k 31 (by omega), k 32 (by omega), k 33 (by omega), k 34 (by omega), k 35 (by omega), k 63 (by omega), k 64 (by omega), k 65 (by omega), k 67 (by omega), k 68 (by omega), k 71 (by omega), k 72 (by omega), k 75 (by omega), k 92 (by omega), k 98 (by omega)]
  rw [k66 8 (by omega), k66 13 (by omega), k66 18 (by omega), k66 20 (by omega), k66 56 (by omega), k66 60 (by omega), k66 61 (by omega)]
  refine ⟨h1, h2, h3, h4, h5, h6, h7, h8, ?_, f1, f2, f3, f4, ?_⟩
  · obtain ⟨a1, a2, a3, a4, a5, a6, a7⟩ := h9
    exact ⟨a1.trans (k66 1 (by omega)).symm, a2, a3, a4, a5, a6, a7.trans (k66 11 (by omega)).symm⟩
  · obtain ⟨g1, g2, g3⟩ := f5
    exact ⟨(kL 81 (by omega)).trans g1, (kL 82 (by omega)).trans g2, (kL 83 (by omega)).trans g3⟩
/-- what asks answers -/
def ask (I : am_I) (fx : Option LWX) (p k : Nat) (x1 : Int32) : Int32 := if x1 = 0 then sC (I 5 p + 1) (TL fx 0 (wdp (I 68) p k 0 (-1))) else if x1 = 1 then sC (I 5 p + 1) (TL fx 0 (wdp (I 68) p k 1 (-1))) else if x1 = 2 then b1 (isb (TL fx 3 (wdp (I 68) p k 0 (-1)))) else if x1 = 3 then b1 (isb (TL fx 3 (wdp (I 68) p k 1 (-1)))) else if x1 = 4 then sC (I 5 p * 3) (TL fx 1 (wdp (I 68) p (-1) (-1) k)) else if x1 = 5 then sC (I 4 p) (TL fx 2 (wdp (I 68) p (-1) (-1) k)) else if x1 = 6 then b1 (sty I fx p k) else -1
theorem b1_k {b : Bool} {G : am_I} {K : Int32 → am_I → Prop} (h : K (b1 b) G) : (if b1 b = 0 then K 0 G else K 1 G) := by
  cases b
  · exact am_ifp rfl h
  · exact am_ifn (by decide) h
theorem b1_kl {b : Bool} {G : am_I} {M : am_J} {K : Int32 → am_I → am_J → Prop} (h : K (b1 b) G M) : (if b1 b = 0 then K 0 G M else K 1 G M) := by
  cases b
  · exact am_ifp rfl h
  · exact am_ifn (by decide) h
theorem smI_0 : smI 0 0 := ⟨rfl, by decide, by decide⟩
theorem smI_1 : smI 1 1 := ⟨rfl, by decide, by decide⟩
theorem askN {I : am_I} {m p k : Nat} {x1 : Int32} {K : Int32 → am_I → Prop} (h : PWd I m p) (hk : k ≤ 7) (hK : ∀ G, (∀ c, c ≠ 24 → c ≠ 25 → c ≠ 26 → G c = I c) → K (ask I none p k x1) G) : (if x1 = 0 then w_109n (nI p) (nI k) 0 I (fun q3 I4 => K q3 I4) else if x1 = 1 then w_109n (nI p) (nI k) 1 I (fun q5 I6 => K q5 I6) else if x1 = 2 then w_113n (nI p) (nI k) 0 I (fun q7 I8 => if q7 = 0 then K 0 I8 else K 1 I8) else if x1 = 3 then w_113n (nI p) (nI k) 1 I (fun q9 I10 => if q9 = 0 then K 0 I10 else K 1 I10) else if x1 = 4 then w_114n (nI p) (nI k) I (fun q11 I12 => K q11 I12) else if x1 = 5 then w_115n (nI p) (nI k) I (fun q13 I14 => K q13 I14) else if x1 = 6 then w_116n (nI p) (nI k) I (fun q15 I16 => if q15 = 0 then K 0 I16 else K 1 I16) else K (-1) I) := by
  have sk : smI (nI k) (k : Int) := smI_n (by omega)
  unfold ask at hK
  by_cases c0 : x1 = 0
  · simp only [if_pos c0] at hK ⊢
    exact c109n h sk smI_0 hK
  simp only [if_neg c0] at hK ⊢
  by_cases c1 : x1 = 1
  · simp only [if_pos c1] at hK ⊢
    exact c109n h sk smI_1 hK
  simp only [if_neg c1] at hK ⊢
  by_cases c2 : x1 = 2
  · simp only [if_pos c2] at hK ⊢
    exact c113n h sk smI_0 (fun G hG => b1_k (hK G hG))
  simp only [if_neg c2] at hK ⊢
  by_cases c3 : x1 = 3
  · simp only [if_pos c3] at hK ⊢
    exact c113n h sk smI_1 (fun G hG => b1_k (hK G hG))
  simp only [if_neg c3] at hK ⊢
  by_cases c4 : x1 = 4
  · simp only [if_pos c4] at hK ⊢
    exact c114n h sk hK
  simp only [if_neg c4] at hK ⊢
  by_cases c5 : x1 = 5
  · simp only [if_pos c5] at hK ⊢
    exact c115n h sk hK
  simp only [if_neg c5] at hK ⊢
  by_cases c6 : x1 = 6
  · simp only [if_pos c6] at hK ⊢
    exact c116n h sk (fun G hG => b1_k (hK G hG))
  simp only [if_neg c6] at hK ⊢
  exact hK I (fun _ _ _ _ => rfl)
theorem askS {T : Nat → Nat × Nat} {r : Nat → Nat → Option Nat} {I : am_I} {X : LWX} {t m p k : Nat} {x1 : Int32} {K : Int32 → am_I → Prop} (h : PWd I m p) (hX : okX X) (hL : LAWc T r I t X) (hk : k ≤ 7) (hK : ∀ G, (∀ c, c ≠ 24 → c ≠ 25 → c ≠ 26 → G c = I c) → K (ask I (some X) p k x1) G) : (if x1 = 0 then w_109s t (nI p) (nI k) 0 T r I (fun q3 I4 => K q3 I4) else if x1 = 1 then w_109s t (nI p) (nI k) 1 T r I (fun q5 I6 => K q5 I6) else if x1 = 2 then w_113s t (nI p) (nI k) 0 T r I (fun q7 I8 => if q7 = 0 then K 0 I8 else K 1 I8) else if x1 = 3 then w_113s t (nI p) (nI k) 1 T r I (fun q9 I10 => if q9 = 0 then K 0 I10 else K 1 I10) else if x1 = 4 then w_114s t (nI p) (nI k) T r I (fun q11 I12 => K q11 I12) else if x1 = 5 then w_115s t (nI p) (nI k) T r I (fun q13 I14 => K q13 I14) else if x1 = 6 then w_116s t (nI p) (nI k) T r I (fun q15 I16 => if q15 = 0 then K 0 I16 else K 1 I16) else K (-1) I) := by
  have sk : smI (nI k) (k : Int) := smI_n (by omega)
  unfold ask at hK
  by_cases c0 : x1 = 0
  · simp only [if_pos c0] at hK ⊢
    exact c109s h hX hL sk smI_0 hK
  simp only [if_neg c0] at hK ⊢
  by_cases c1 : x1 = 1
  · simp only [if_pos c1] at hK ⊢
    exact c109s h hX hL sk smI_1 hK
  simp only [if_neg c1] at hK ⊢
  by_cases c2 : x1 = 2
  · simp only [if_pos c2] at hK ⊢
    exact c113s h hX hL sk smI_0 (fun G hG => b1_k (hK G hG))
  simp only [if_neg c2] at hK ⊢
  by_cases c3 : x1 = 3
  · simp only [if_pos c3] at hK ⊢
    exact c113s h hX hL sk smI_1 (fun G hG => b1_k (hK G hG))
  simp only [if_neg c3] at hK ⊢
  by_cases c4 : x1 = 4
  · simp only [if_pos c4] at hK ⊢
    exact c114s h hX hL sk hK
  simp only [if_neg c4] at hK ⊢
  by_cases c5 : x1 = 5
  · simp only [if_pos c5] at hK ⊢
    exact c115s h hX hL sk hK
  simp only [if_neg c5] at hK ⊢
  by_cases c6 : x1 = 6
  · simp only [if_pos c6] at hK ⊢
    exact c116s h hX hL sk (fun G hG => b1_k (hK G hG))
  simp only [if_neg c6] at hK ⊢
  exact hK I (fun _ _ _ _ => rfl)
theorem a6182 (x : Int32) : f_182 x.toInt64 0 6 = f_13 x 0 6 := q182 x 0 6
theorem a7182 (x : Int32) : f_182 x.toInt64 0 7 = f_13 x 0 7 := q182 x 0 7
theorem a5182 (x : Int32) : f_182 x.toInt64 0 5 = f_13 x 0 5 := q182 x 0 5
theorem askR {I : am_I} {L : am_J} {fx : Option LWX} {m p k j z : Nat} {K : Int32 → am_I → am_J → Prop} (h : PWd I m p) (hL : LOr (I 68) (I 68 4) fx) (hk : k ≤ 7) (hz : k ≤ z) (hz9 : z ≤ 7) (hj : j ≤ 6) (hK : ∀ G M, frL I G L M → K (ask I fx p k (nI j)) G M) : wb_233_42 (nI p) (nI j) (nI k) (Int32.toInt64 (nI k)) 0 (Int32.toInt64 (nI z)) I L K := by
  have sk : smI (nI k) (k : Int) := smI_n (by omega)
  unfold wb_233_42
  rw [m182]
  rcases q13 (nI k) 0 z (by decide) (by omega) with ⟨_, g⟩ | ⟨a, _⟩
  · exact absurd rfl (g k (by omega) hz)
  rw [if_neg (by rw [show f_13 (nI k) 0 (nI z) = 1 from a]; decide)]
  unfold wb_233_88 wb_233_102
  rcases (by omega : j = 0 ∨ j = 1 ∨ j = 2 ∨ j = 3 ∨ j = 4 ∨ j = 5 ∨ j = 6) with rfl | rfl | rfl | rfl | rfl | rfl | rfl
  · rw [if_pos (by decide)]
    exact r234 h hL sk smI_0 hK
  · rw [if_neg (by decide), if_pos (by decide)]
    exact r234 h hL sk smI_1 hK
  · rw [if_neg (by decide), if_neg (by decide), if_pos (by decide)]
    exact r242 h hL sk (show smI (nI 2 - 2) 0 from ⟨by decide, by decide, by decide⟩) (fun G M hG => b1_kl (hK G M hG))
  · rw [if_neg (by decide), if_neg (by decide), if_neg (by decide), if_pos (by decide)]
    exact r242 h hL sk (show smI (nI 3 - 2) 1 from ⟨by decide, by decide, by decide⟩) (fun G M hG => b1_kl (hK G M hG))
  · rw [if_neg (by decide), if_neg (by decide), if_neg (by decide), if_neg (by decide), if_pos (by decide)]
    exact r243 h hL sk hK
  · rw [if_neg (by decide), if_neg (by decide), if_neg (by decide), if_neg (by decide), if_neg (by decide), if_pos (by decide)]
    exact r244 h hL sk hK
  · rw [if_neg (by decide), if_neg (by decide), if_neg (by decide), if_neg (by decide), if_neg (by decide), if_neg (by decide)]
    exact r245 h hL sk (fun G M hG => b1_kl (hK G M hG))
theorem inv_law {D : am_P} (hD : FrD D) (hL : FrL D) {N : Nat} {T : Nat → Nat × Nat} {r : Nat → Nat → Option Nat} {I G J : am_I} {L M : am_J} (h : Inv D N T r I L) (g : ∀ c, c ≠ 23 → c ≠ 24 → c ≠ 25 → c ≠ 26 → c ≠ 27 → c ≠ 28 → G c = I c) (f : frL (am_u G 66 0 0) J L M) : Inv D N T r J M := by
  refine inv_scr2 hD hL h (fun c hc => ?_) (fun i hi => ?_) (fun c hc => f.2.2.1 c (by omega) (by omega) (by omega))
  · rw [f.1 c (by omega), uu_h (by omega)]
    exact g c (by omega) (by omega) (by omega) (by omega) (by omega) (by omega)
  · rw [f.2.1 i (by omega) (by omega), uu_n (by omega), g 66 (by decide) (by decide) (by decide) (by decide) (by decide) (by decide)]
theorem o_17 {D : am_P} (hD : FrD D) (hL : FrL D) (hW : hasL D) {N : Nat} {T : Nat → Nat × Nat} {r : Nat → Nat → Option Nat} {I : am_I} {L : am_J} (h : Inv D N T r I L) (x1 x2 x3 : Int32) : op_17 x1 x2 x3 (Inv D) N T r I L := by
  unfold op_17 w_107
  obtain ⟨m, v, hm, hv, e1, e2, e3, hp⟩ := h.1.2.1
  obtain ⟨l, hl, l1, l2, l3, l4⟩ := h.1.2.2.2.1
  have i0 := inv_0 hD h
  have sk : ∀ q : Int32, q = -1 → (f_192 x1 I = 0 ∨ f_13 x2 0 6 = 0 ∨ ((4 : Int32) ≤ x2 ∧ f_13 x3 0 7 = 0) ∨ (¬ (4 : Int32) ≤ x2 ∧ f_13 x3 0 5 = 0)) → w_233 x1 x2 x3 I L (fun q2 I2 L2 => q = q2 ∧ Inv D N T r I2 L2) := by
    intro q hq hh
    have fin : q = -1 ∧ Inv D N T r (am_u I 66 0 0) L := ⟨hq, i0⟩
    unfold w_233
    have ea : f_192 x1 (am_u I 66 0 0) = f_192 x1 I := rfl
    rw [ea, a6182]
    by_cases c1 : f_192 x1 I = 0
    · rw [if_pos c1]; exact fin
    rw [if_neg c1]
    by_cases c2 : f_13 x2 0 6 = 0
    · rw [if_pos c2]; exact fin
    rw [if_neg c2]
    unfold wb_233_42
    rw [a7182, a5182]
    by_cases c3 : (4 : Int32) ≤ x2
    · rw [if_pos c3]
      refine am_ifp ?_ fin
      rcases hh with q | q | q | q
      · exact absurd q c1
      · exact absurd q c2
      · exact q.2
      · exact absurd c3 q.1
    · rw [if_neg c3]
      refine am_ifp ?_ fin
      rcases hh with q | q | q | q
      · exact absurd q c1
      · exact absurd q c2
      · exact absurd q.1 c3
      · exact q.2
  rcases qm hm e1 e2 x1 with ⟨a1, a2, _⟩ | ⟨a1, a2, p, hpm, rfl⟩
  · rw [if_pos a1, if_pos a1]
    split
    · exact sk _ rfl (Or.inl a2)
    · exact sk _ rfl (Or.inl a2)
  have hP := PWd_of h.1 e1 hm hpm
  obtain ⟨fx, hr, hc⟩ := lawX (hW _ _ _ _ _ h.2) hl l1 (x := I 1 16) (by rw [l3]; exact l4)
  have hr' : LOr (I 68) (I 68 4) fx := by
    rw [l3] at hr
    exact hr
  have na : ¬ f_27 (nI p) I = 0 := by rw [a1]; decide
  have nb : ¬ f_192 (nI p) I = 0 := by rw [a2]; decide
  rw [if_neg na, if_neg na]
  -- what the reference answers, behind the class
  have mdl : ∀ k z : Nat, k ≤ 7 → k ≤ z → z ≤ 7 → x3 = nI k → ((4 : Int32) ≤ x2 → z = 7) → (¬ (4 : Int32) ≤ x2 → z = 5) → ∀ G : am_I, (∀ c, c ≠ 24 → c ≠ 25 → c ≠ 26 → G c = I c) → w_233 (nI p) x2 x3 G L (fun q2 I2 L2 => ask I fx p k x2 = q2 ∧ Inv D N T r I2 L2) := by
    intro k z hk hkz hz ek z7 z5 G hG
    have g' : ∀ c, c ≠ 23 → c ≠ 24 → c ≠ 25 → c ≠ 26 → c ≠ 27 → c ≠ 28 → G c = I c := fun c _ c1 c2 c3 _ _ => hG c c1 c2 c3
    unfold w_233
    have ea : f_192 (nI p) (am_u G 66 0 0) = f_192 (nI p) I := by
      unfold f_192
      rw [uu_c (by decide), hG 68 (by decide) (by decide) (by decide)]
    rw [ea, if_neg nb, a6182]
    rcases q13 x2 0 6 (by decide) (by decide) with ⟨b1', b2⟩ | ⟨b1', j, _, hj, ej⟩
    · rw [if_pos (show f_13 x2 0 6 = 0 from b1')]
      have e6 : ask I fx p k x2 = -1 := by
        unfold ask
        rw [if_neg (show ¬ x2 = 0 from b2 0 (by decide) (by decide)), if_neg (show ¬ x2 = 1 from b2 1 (by decide) (by decide)), if_neg (show ¬ x2 = 2 from b2 2 (by decide) (by decide)), if_neg (show ¬ x2 = 3 from b2 3 (by decide) (by decide)), if_neg (show ¬ x2 = 4 from b2 4 (by decide) (by decide)), if_neg (show ¬ x2 = 5 from b2 5 (by decide) (by decide)), if_neg (show ¬ x2 = 6 from b2 6 (by decide) (by decide))]
      exact ⟨e6, inv_law hD hL h g' (frL_0 _ _)⟩
    · rw [if_neg (by rw [show f_13 x2 0 6 = 1 from b1']; decide)]
      have hP0 : PWd (am_u G 66 0 0) m p := PWd_cg hP (by rw [uu_h (by decide)]; exact hG 1 (by decide) (by decide) (by decide)) (by rw [uu_h (by decide)]; exact hG 4 (by decide) (by decide) (by decide)) (by rw [uu_h (by decide)]; exact hG 5 (by decide) (by decide) (by decide)) (by rw [uu_h (by decide)]; exact hG 7 (by decide) (by decide) (by decide)) (by rw [uu_h (by decide)]; exact hG 12 (by decide) (by decide) (by decide)) (by rw [uu_h (by decide)]; exact hG 68 (by decide) (by decide) (by decide)) (by rw [uu_n (by decide), hG 66 (by decide) (by decide) (by decide)])
      have e68 : am_u G 66 0 0 68 = I 68 := by rw [uu_h (by decide)]; exact hG 68 (by decide) (by decide) (by decide)
      have eask : ask (am_u G 66 0 0) fx p k x2 = ask I fx p k x2 := by
        unfold ask sty
        rw [e68, uu_h (by decide), uu_h (by decide), uu_h (by decide), hG 4 (by decide) (by decide) (by decide), hG 5 (by decide) (by decide) (by decide), hG 12 (by decide) (by decide) (by decide)]
      have go : wb_233_42 (nI p) x2 x3 (Int32.toInt64 x3) 0 (Int32.toInt64 (nI z)) (am_u G 66 0 0) L (fun q2 I2 L2 => ask I fx p k x2 = q2 ∧ Inv D N T r I2 L2) := by
        rw [ek, ej]
        refine askR hP0 (by rw [e68]; exact hr') hk hkz hz hj (fun H M hH => ?_)
        rw [← ej, eask]
        exact ⟨rfl, inv_law hD hL h g' hH⟩
      by_cases c4 : (4 : Int32) ≤ x2
      · rw [if_pos c4]
        rw [z7 c4] at go
        exact go
      · rw [if_neg c4]
        rw [z5 c4] at go
        exact go
  have body : ∀ k z : Nat, k ≤ 7 → k ≤ z → z ≤ 7 → x3 = nI k → ((4 : Int32) ≤ x2 → z = 7) → (¬ (4 : Int32) ≤ x2 → z = 5) → ∀ o, LOc T r I o fx → (o = none → (if x2 = 0 then w_109n (nI p) x3 0 I (fun q3 I4 => w_233 (nI p) x2 x3 I4 L (fun q2 I2 L2 => q3 = q2 ∧ Inv D N T r I2 L2)) else if x2 = 1 then w_109n (nI p) x3 1 I (fun q3 I4 => w_233 (nI p) x2 x3 I4 L (fun q2 I2 L2 => q3 = q2 ∧ Inv D N T r I2 L2)) else if x2 = 2 then w_113n (nI p) x3 0 I (fun q7 I8 => if q7 = 0 then w_233 (nI p) x2 x3 I8 L (fun q2 I2 L2 => 0 = q2 ∧ Inv D N T r I2 L2) else w_233 (nI p) x2 x3 I8 L (fun q2 I2 L2 => 1 = q2 ∧ Inv D N T r I2 L2)) else if x2 = 3 then w_113n (nI p) x3 1 I (fun q7 I8 => if q7 = 0 then w_233 (nI p) x2 x3 I8 L (fun q2 I2 L2 => 0 = q2 ∧ Inv D N T r I2 L2) else w_233 (nI p) x2 x3 I8 L (fun q2 I2 L2 => 1 = q2 ∧ Inv D N T r I2 L2)) else if x2 = 4 then w_114n (nI p) x3 I (fun q3 I4 => w_233 (nI p) x2 x3 I4 L (fun q2 I2 L2 => q3 = q2 ∧ Inv D N T r I2 L2)) else if x2 = 5 then w_115n (nI p) x3 I (fun q3 I4 => w_233 (nI p) x2 x3 I4 L (fun q2 I2 L2 => q3 = q2 ∧ Inv D N T r I2 L2)) else if x2 = 6 then w_116n (nI p) x3 I (fun q7 I8 => if q7 = 0 then w_233 (nI p) x2 x3 I8 L (fun q2 I2 L2 => 0 = q2 ∧ Inv D N T r I2 L2) else w_233 (nI p) x2 x3 I8 L (fun q2 I2 L2 => 1 = q2 ∧ Inv D N T r I2 L2)) else w_233 (nI p) x2 x3 I L (fun q2 I2 L2 => -1 = q2 ∧ Inv D N T r I2 L2))) ∧ ∀ t, o = some t → (if x2 = 0 then w_109s t (nI p) x3 0 T r I (fun q3 I4 => w_233 (nI p) x2 x3 I4 L (fun q2 I2 L2 => q3 = q2 ∧ Inv D N T r I2 L2)) else if x2 = 1 then w_109s t (nI p) x3 1 T r I (fun q3 I4 => w_233 (nI p) x2 x3 I4 L (fun q2 I2 L2 => q3 = q2 ∧ Inv D N T r I2 L2)) else if x2 = 2 then w_113s t (nI p) x3 0 T r I (fun q7 I8 => if q7 = 0 then w_233 (nI p) x2 x3 I8 L (fun q2 I2 L2 => 0 = q2 ∧ Inv D N T r I2 L2) else w_233 (nI p) x2 x3 I8 L (fun q2 I2 L2 => 1 = q2 ∧ Inv D N T r I2 L2)) else if x2 = 3 then w_113s t (nI p) x3 1 T r I (fun q7 I8 => if q7 = 0 then w_233 (nI p) x2 x3 I8 L (fun q2 I2 L2 => 0 = q2 ∧ Inv D N T r I2 L2) else w_233 (nI p) x2 x3 I8 L (fun q2 I2 L2 => 1 = q2 ∧ Inv D N T r I2 L2)) else if x2 = 4 then w_114s t (nI p) x3 T r I (fun q3 I4 => w_233 (nI p) x2 x3 I4 L (fun q2 I2 L2 => q3 = q2 ∧ Inv D N T r I2 L2)) else if x2 = 5 then w_115s t (nI p) x3 T r I (fun q3 I4 => w_233 (nI p) x2 x3 I4 L (fun q2 I2 L2 => q3 = q2 ∧ Inv D N T r I2 L2)) else if x2 = 6 then w_116s t (nI p) x3 T r I (fun q7 I8 => if q7 = 0 then w_233 (nI p) x2 x3 I8 L (fun q2 I2 L2 => 0 = q2 ∧ Inv D N T r I2 L2) else w_233 (nI p) x2 x3 I8 L (fun q2 I2 L2 => 1 = q2 ∧ Inv D N T r I2 L2)) else w_233 (nI p) x2 x3 I L (fun q2 I2 L2 => -1 = q2 ∧ Inv D N T r I2 L2)) := by
    intro k z hk hkz hz ek z7 z5 o ho
    have md := mdl k z hk hkz hz ek z7 z5
    rcases ho with ⟨o1, o2⟩ | ⟨t, X, o1, o2, o3, o4⟩
    · refine ⟨fun _ => ?_, fun t ht => by rw [o1] at ht; cases ht⟩
      rw [o2] at md
      rw [ek] at md ⊢
      exact askN (K := fun q I4 => w_233 (nI p) x2 (nI k) I4 L (fun q2 I2 L2 => q = q2 ∧ Inv D N T r I2 L2)) hP hk md
    · refine ⟨(fun hn => by rw [o1] at hn; cases hn), fun t' ht => ?_⟩
      rw [o1] at ht
      rw [← Option.some.inj ht]
      rw [o2] at md
      rw [ek] at md ⊢
      exact askS (K := fun q I4 => w_233 (nI p) x2 (nI k) I4 L (fun q2 I2 L2 => q = q2 ∧ Inv D N T r I2 L2)) hP o3 o4 hk md
  by_cases c4 : (4 : Int32) ≤ x2
  · rw [if_pos c4]
    rcases q13 x3 0 7 (by decide) (by decide) with ⟨b1', _⟩ | ⟨b1', k, _, hk, ek⟩
    · rw [if_pos (show f_13 x3 0 7 = 0 from b1')]
      exact sk _ rfl (Or.inr (Or.inr (Or.inl ⟨c4, b1'⟩)))
    · rw [if_neg (by rw [show f_13 x3 0 7 = 1 from b1']; decide)]
      exact hc _ (fun o ho => body k 7 hk hk (by decide) ek (fun _ => rfl) (fun q => absurd c4 q) o ho)
  · rw [if_neg c4]
    rcases q13 x3 0 5 (by decide) (by decide) with ⟨b1', _⟩ | ⟨b1', k, _, hk, ek⟩
    · rw [if_pos (show f_13 x3 0 5 = 0 from b1')]
      exact sk _ rfl (Or.inr (Or.inr (Or.inr ⟨c4, b1'⟩)))
    · rw [if_neg (by rw [show f_13 x3 0 5 = 1 from b1']; decide)]
      exact hc _ (fun o ho => body k 5 (by omega) hk (by decide) ek (fun q => absurd q c4) (fun _ => rfl) o ho)
