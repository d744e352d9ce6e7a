/-! next, by the reference -/
theorem nar01 (b : Bool) : vp_nar .boolean (b1 b) = b1 b := by cases b <;> rfl
theorem l285a {I : am_I} {c m : Nat} {x : Int32} {E : Int32 → Int32 → am_I → Prop} (hc : c ≤ 8) (hm : m ≤ 8) (em : I 68 1 = nI m) (e1 : I 68 2 = nI c) (hp : ∀ k, k < c → ∃ g i, g < 2 ^ m ∧ i ≤ 8 ∧ I 68 (94 + 2 * k) = nI g ∧ I 68 (95 + 2 * k) = nI i) (hE : ∀ J, (∀ c, c ≠ 96 → J c = I c) → (∀ s, s < 2 ^ m → J 96 s = b1 (fit (I 68) c s)) → E (b1 (exb (fit (I 68) c) (2 ^ m))) (nI (2 ^ m)) J) : ∀ q s J, s + q = 2 ^ m → (∀ c, c ≠ 96 → J c = I c) → (∀ i, i < s → J 96 i = b1 (fit (I 68) c i)) → lw_285_30 (q + 1) x (b1 (exb (fit (I 68) c) s)) (nI s) J E
  | 0, s, J, h, h1, h2 => by
    have p2 : 2 ^ m ≤ 256 := Nat.pow_le_pow_right (n := 2) (j := 8) (by decide) hm
    have hj : s = 2 ^ m := by omega
    subst hj
    unfold lw_285_30
    rw [h1 68 (by decide), em, q1s m (by omega), if_pos (nI_le (Nat.le_refl _) (by omega))]
    exact hE J h1 h2
  | q + 1, s, J, h, h1, h2 => by
    have p2 : 2 ^ m ≤ 256 := Nat.pow_le_pow_right (n := 2) (j := 8) (by decide) hm
    have J68 : J 68 = I 68 := h1 68 (by decide)
    have ih := l285a (x := x) hc hm em e1 hp hE q (s + 1)
    unfold lw_285_30
    rw [J68, em, q1s m (by omega), if_neg (nI_ge (by omega) (by omega))]
    refine q284 (c := c) (m := m) hc hm (by omega) (by rw [J68]; exact e1) (by rw [J68]; exact hp) ?_
    have g : ¬ (nI s < 0 ∨ 256 ≤ Int32.toNatClampNeg (nI s)) := nb_gd (by omega) (by decide)
    refine ⟨g, ?_⟩
    rw [nI_clamp (by omega : s < 2 ^ 31)] at g ⊢
    rw [J68, nar01, ← nI_succ, uu_e]
    have ex : exb (fit (I 68) c) (s + 1) = (exb (fit (I 68) c) s || fit (I 68) c s) := rfl
    have kk : ∀ v, v = b1 (exb (fit (I 68) c) (s + 1)) → lw_285_30 (q + 1) x v (nI (s + 1)) (am_u J 96 s (b1 (fit (I 68) c s))) E := by
      intro v hv
      rw [hv]
      refine ih _ (by omega) (fun c hc => by rw [uu_h hc]; exact h1 c hc) (fun i hi => ?_)
      by_cases e : i = s
      · subst e
        exact uu_e
      · rw [uu_n e]
        exact h2 i (by omega)
    rw [ex] at kk
    cases hb : exb (fit (I 68) c) s with
    | false =>
      rw [hb, Bool.false_or] at kk
      rw [if_pos (show b1 false = 0 from rfl)]
      refine ⟨g, ?_⟩
      cases hf : fit (I 68) c s with
      | false =>
        rw [hf] at kk
        exact am_ifp rfl (kk _ rfl)
      | true =>
        rw [hf] at kk
        exact am_ifn (by decide) (kk _ rfl)
    | true =>
      rw [hb, Bool.true_or] at kk
      rw [if_neg (show ¬ b1 true = 0 by decide)]
      exact kk _ rfl
theorem l286a {I : am_I} {x : Int32} {E : Int32 → am_I → Prop} (hE : ∀ J, (∀ c, c ≠ 95 → J c = I c) → (∀ y, y < 9 → J 95 y = 0) → E (nI 9) J) : ∀ q j J, j + q = 9 → (∀ c, c ≠ 95 → J c = I c) → (∀ y, y < j → J 95 y = 0) → lw_286_2 (q + 1) x (nI j) J E
  | 0, j, J, h, h1, h2 => by
    have hj : j = 9 := by omega
    subst hj
    unfold lw_286_2
    rw [if_pos (show (9 : Int32) ≤ nI 9 from nI_le (a := 9) (Nat.le_refl _) (by decide))]
    exact hE J h1 h2
  | q + 1, j, J, h, h1, h2 => by
    unfold lw_286_2
    rw [if_neg (show ¬ (9 : Int32) ≤ nI j from nI_ge (b := 9) (by omega) (by decide))]
    refine ⟨nb_gd (by omega) (by decide), ?_⟩
    rw [nI_clamp (by omega), ← nI_succ]
    refine l286a hE q (j + 1) _ (by omega) (fun c hc => by rw [uu_h hc]; exact h1 c hc) (fun y hy => ?_)
    by_cases e : y = j
    · subst e
      exact uu_e
    · rw [uu_n e]
      exact h2 y (by omega)
theorem cS_le (F : Nat → Bool) (g k n : Nat) : cS F g k n ≤ n := fb_ct_le _ _
theorem l286b {I : am_I} {F : Nat → Bool} {m g : Nat} {E : Int32 → Int32 → am_I → Prop} (hm : m ≤ 8) (hg : g < 2 ^ m) (em : I 68 1 = nI m) (h96 : ∀ s, s < 2 ^ m → I 96 s = b1 (F s)) (hE : ∀ J, (∀ c, c ≠ 95 → J c = I c) → E (nI (mxn (fun k => cS F g k (2 ^ m)) 9)) (nI (2 ^ m)) J) : ∀ q s J, s + q = 2 ^ m → (∀ c, c ≠ 95 → J c = I c) → (∀ k, k < 9 → J 95 k = nI (cS F g k s)) → lw_286_25 (q + 1) (nI g) (nI (mxn (fun k => cS F g k s) 9)) (nI s) J E
  | 0, s, J, h, h1, h2 => by
    have p2 : 2 ^ m ≤ 256 := Nat.pow_le_pow_right (n := 2) (j := 8) (by decide) hm
    have hj : s = 2 ^ m := by omega
    subst hj
    unfold lw_286_25
    rw [h1 68 (by decide), em, q1s m (by omega), if_pos (nI_le (Nat.le_refl _) (by omega))]
    exact hE J h1
  | q + 1, s, J, h, h1, h2 => by
    have p2 : 2 ^ m ≤ 256 := Nat.pow_le_pow_right (n := 2) (j := 8) (by decide) hm
    have ih := l286b hm hg em h96 hE q (s + 1)
    unfold lw_286_25
    rw [h1 68 (by decide), em, q1s m (by omega), if_neg (nI_ge (by omega) (by omega))]
    have gs : ¬ (nI s < 0 ∨ 256 ≤ Int32.toNatClampNeg (nI s)) := nb_gd (by omega) (by decide)
    refine ⟨gs, ?_⟩
    rw [nI_clamp (by omega : s < 2 ^ 31), h1 96 (by decide), h96 s (by omega), ← nI_succ]
    have cs : ∀ k, cS F g k (s + 1) = cS F g k s + (if (F s && decide (pc g = pc (g &&& s) + k)) = true then 1 else 0) := fun k => fb_ct_succ _ _
    cases hf : F s with
    | false =>
      rw [if_pos (show b1 false = 0 from rfl)]
      have e : ∀ k, cS F g k (s + 1) = cS F g k s := fun k => by
        rw [cs k, hf, Bool.false_and, if_neg (by decide), Nat.add_zero]
      have e2 : (fun k => cS F g k (s + 1)) = fun k => cS F g k s := funext e
      rw [e2] at ih
      exact ih J (by omega) h1 (fun k hk => by rw [e k]; exact h2 k hk)
    | true =>
      rw [if_neg (show ¬ b1 true = 0 by decide)]
      refine q236 (by omega) ?_
      rw [nx_and]
      have al : g &&& s ≤ g := Nat.and_le_left
      refine q236 (by omega) ?_
      have an := pc_an g s
      have pm : pc g ≤ m := by
        rw [pc_m (by omega) hg]
        exact pcn_le g m
      have pk : ∃ k0, k0 ≤ 8 ∧ pc g = pc (g &&& s) + k0 := ⟨pc g - pc (g &&& s), by omega, by omega⟩
      obtain ⟨k0, k1, k2⟩ := pk
      have x0 : nI (pc g) - nI (pc (g &&& s)) = nI k0 := by
        rw [nb_sub (by omega), show pc g - pc (g &&& s) = k0 by omega]
      rw [x0]
      have g9 : ¬ (nI k0 < 0 ∨ 9 ≤ Int32.toNatClampNeg (nI k0)) := nb_gd (by omega) (by decide)
      refine ⟨g9, g9, g9, ?_⟩
      rw [nI_clamp (by omega : k0 < 2 ^ 31)] at g9 ⊢
      rw [uu_e, h2 k0 (by omega), ← nI_succ]
      have c1 := cS_le F g k0 s
      have ml : mxn (fun k => cS F g k s) 9 ≤ 256 := mxn_le (fun k _ => by have := cS_le F g k s; omega)
      have e1 : cS F g k0 (s + 1) = cS F g k0 s + 1 := by
        rw [cs k0, hf, decide_eq_true k2, Bool.true_and, if_pos rfl]
      have e2 : ∀ j, j < 9 → j ≠ k0 → cS F g j (s + 1) = cS F g j s := fun j _ hj => by
        rw [cs j, decide_eq_false (by omega), Bool.and_false, if_neg (by decide), Nat.add_zero]
      have mu := mxn_up (f := fun k => cS F g k s) (h := fun k => cS F g k (s + 1)) (n := 9) (by omega) e1 e2
      have kJ : ∀ c, c ≠ 95 → am_u J 95 k0 (nI (cS F g k0 s + 1)) c = I c := fun c hc => by
        rw [uu_h hc]
        exact h1 c hc
      have k95 : ∀ k, k < 9 → am_u J 95 k0 (nI (cS F g k0 s + 1)) 95 k = nI (cS F g k (s + 1)) := fun k hk => by
        by_cases e : k = k0
        · subst e
          rw [uu_e, e1]
        · rw [uu_n e, e2 k hk e]
          exact h2 k hk
      have ih2 := ih _ (by omega) kJ k95
      rw [mu] at ih2
      by_cases c : cS F g k0 s + 1 ≤ mxn (fun k => cS F g k s) 9
      · rw [if_pos (nI_le c (by omega))]
        rw [Nat.max_eq_left c] at ih2
        exact ih2
      · rw [if_neg (nI_ge (by omega) (by omega))]
        rw [Nat.max_eq_right (by omega)] at ih2
        exact ⟨g9, ih2⟩
theorem q286 {I : am_I} {F : Nat → Bool} {m g : Nat} {K : Int32 → am_I → Prop} (hm : m ≤ 8) (hg : g < 2 ^ m) (em : I 68 1 = nI m) (h96 : ∀ s, s < 2 ^ m → I 96 s = b1 (F s)) (hK : ∀ J, (∀ c, c ≠ 95 → J c = I c) → K (nI (mxn (fun k => cS F g k (2 ^ m)) 9)) J) : w_286 (nI g) I K := by
  unfold w_286
  refine ⟨10, l286a (I := I) (fun J a1 a2 => ?_) 9 0 I (by omega) (fun c _ => rfl) (fun i hi => absurd hi (by omega))⟩
  have z := l286b (I := I) (F := F) (E := fun o5 _ I7 => K o5 I7) hm hg em h96 hK (2 ^ m) 0 J (by omega) a1 (fun k hk => a2 k hk)
  exact ⟨2 ^ m + 1, z⟩
theorem mx_eq {F : Nat → Bool} {m g : Nat} (hm : m ≤ 8) (hg : g < 2 ^ m) : mxn (fun k => cS F g k (2 ^ m)) 9 = mxn (cA (FO F m) m m g) (m + 1) := by
  have e : mxn (fun k => cS F g k (2 ^ m)) 9 = mxn (cA (FO F m) m m g) 9 := mxn_cong (fun k _ => cS_cA (by omega) hg)
  rw [e]
  have q := mxn_ext (f := cA (FO F m) m m g) (a := m + 1) (fun k hk => cA_hi (by omega)) (8 - m)
  rw [show m + 1 + (8 - m) = 9 by omega] at q
  exact q
theorem l285b {I : am_I} {F : Nat → Bool} {m : Nat} {x : Int32} {E : Int32 → Int32 → Int32 → am_I → Prop} (hm : m ≤ 8) (em : I 68 1 = nI m) (h96 : ∀ s, s < 2 ^ m → I 96 s = b1 (F s)) (hE : ∀ J v a b, (∀ c, c ≠ 95 → J c = I c) → (BG (fun g => mxn (cA (FO F m) m m g) (m + 1)) (2 ^ m - 1) a b ∨ 2 ^ m - 1 = 0) → E b a v J) : ∀ q n J a b, n + q = 2 ^ m - 1 → (∀ c, c ≠ 95 → J c = I c) → (BG (fun g => mxn (cA (FO F m) m m g) (m + 1)) n a b ∨ n = 0) → (n = 0 → b = 100000000) → lw_285_94 (q + 1) x b a (nI (n + 1)) J E
  | 0, n, J, a, b, h, h1, h2, h3 => by
    have p2 : 2 ^ m ≤ 256 := Nat.pow_le_pow_right (n := 2) (j := 8) (by decide) hm
    have p1 := Nat.two_pow_pos m
    have hj : n = 2 ^ m - 1 := by omega
    subst hj
    unfold lw_285_94
    rw [h1 68 (by decide), em, q1s m (by omega), if_pos (nI_le (by omega) (by omega))]
    exact hE J _ a b h1 h2
  | q + 1, n, J, a, b, h, h1, h2, h3 => by
    have p2 : 2 ^ m ≤ 256 := Nat.pow_le_pow_right (n := 2) (j := 8) (by decide) hm
    have p1 := Nat.two_pow_pos m
    have ih := l285b (x := x) hm em h96 hE q (n + 1)
    have ml : ∀ g, mxn (cA (FO F m) m m g) (m + 1) ≤ 256 := fun g => mxn_le (fun k _ => by
      have := cA_le (FO F m) m m g k
      omega)
    have ml2 : ∀ g, (fun g => mxn (cA (FO F m) m m g) (m + 1)) g < 2 ^ 30 := fun g => by
      have := ml g
      show mxn (cA (FO F m) m m g) (m + 1) < 2 ^ 30
      omega
    unfold lw_285_94
    rw [h1 68 (by decide), em, q1s m (by omega), if_neg (nI_ge (by omega) (by omega))]
    refine q286 (F := F) hm (by omega) (by rw [h1 68 (by decide)]; exact em) (fun s hs => by rw [h1 96 (by decide)]; exact h96 s hs) (fun J' k1 => ?_)
    rw [mx_eq hm (by omega), ← nI_succ]
    have kJ : ∀ c, c ≠ 95 → J' c = I c := fun c hc => (k1 c hc).trans (h1 c hc)
    have ms := ml (n + 1)
    by_cases c : b ≤ nI (mxn (cA (FO F m) m m (n + 1)) (m + 1))
    · rw [if_pos c, if_pos c]
      refine ih J' a b (by omega) kJ ?_ (fun z => absurd z (by omega))
      rcases h2 with h2 | h2
      · exact Or.inl (BG_keep ml2 h2 c)
      · rw [h3 h2] at c
        exact absurd c (nI_ge (b := 100000000) (by omega) (by decide))
    · rw [if_neg c, if_neg c]
      exact ih J' _ _ (by omega) kJ (Or.inl (BG_new ml2 h2 c)) (fun z => absurd z (by omega))
theorem exb_ct (P : Nat → Bool) : ∀ n, exb P n = decide (¬ fb_ct P n = 0)
  | 0 => rfl
  | n + 1 => by
    show (exb P n || P n) = _
    rw [exb_ct P n, fb_ct_succ]
    cases P n
    · simp
    · simp
theorem o_33 {D : am_P} (hD : FrD D) {N : Nat} {T : Nat → Nat × Nat} {r : Nat → Nat → Option Nat} {I : am_I} {L : am_J} (h : Inv D N T r I L) (x1 : Int32) : op_33 x1 (Inv D) N T r I L := by
  unfold op_33 w_159
  obtain ⟨c, m, hc, hm, e1, e2, e3, hp⟩ := h.1.2.2.1
  obtain ⟨m', v, hm', hv, a1, a2, a3, hpm⟩ := h.1.2.1
  have em : m' = m := by
    rw [e3] at a2
    exact ((nb_inj (by omega) (by omega)).mp a2).symm
  subst em
  have i0 := inv_0 hD h
  have p2 : 2 ^ m' ≤ 256 := Nat.pow_le_pow_right (n := 2) (j := 8) (by decide) hm
  rcases q18 x1 with ⟨b1', b3, _, _⟩ | ⟨b1', b3, bb, hbb, _⟩
  · rw [if_pos b1']
    show w_285 _ _ _
    unfold w_285
    rw [b182]
    exact am_ifp b3 ⟨rfl, i0⟩
  rw [if_neg (by rw [b1']; decide), a1]
  have n3 : ¬ f_13 x1 0 1 = 0 := by rw [b3]; decide
  have mz : nI m' = 0 ↔ m' = 0 := nb_inj (b := 0) (by omega) (by decide)
  by_cases m0 : m' = 0
  · rw [if_pos (mz.mpr m0)]
    show w_285 _ _ _
    unfold w_285
    rw [b182]
    refine am_ifn n3 (am_ifp ?_ ⟨rfl, i0⟩)
    rw [e3]
    exact mz.mpr m0
  rw [if_neg (fun e => m0 (mz.mp e))]
  have cl := fb_ct_le (fit (I 68) c) (2 ^ m')
  refine q157 hc hm a1 e1 hp (fun J hg => ?_)
  have J68 : J 68 = I 68 := hg.1 68 (by decide) (by decide)
  have mdl : ∀ (q : Int32) (J' : am_I), (∀ c, c ≠ 59 → c ≠ 60 → c ≠ 61 → J' c = I c) → (fb_ct (fit (I 68) c) (2 ^ m') = 0 → q = -1) → (¬ fb_ct (fit (I 68) c) (2 ^ m') = 0 → ∀ a b, BG (fun g => mxn (cA (FO (fit (I 68) c) m') m' m' g) (m' + 1)) (2 ^ m' - 1) a b → (x1 = 0 → q = a) ∧ (¬ x1 = 0 → q = b)) → w_285 x1 J' (fun q2 I2 => q = q2 ∧ Inv D N T r I2 L) := by
    intro q J' hJ' g1 g2
    have e68 : am_u J' 66 0 0 68 = I 68 := by rw [uu_h (by decide), hJ' 68 (by decide) (by decide) (by decide)]
    have iJ : Inv D N T r (am_u J' 66 0 0) L := inv_0 hD (inv_scr hD h (fun c hc => hJ' c (by omega) (by omega) (by omega)))
    have p1 : 2 ^ 1 ≤ 2 ^ m' := Nat.pow_le_pow_right (by decide) (by omega)
    unfold w_285
    rw [b182]
    refine am_ifn n3 (am_ifn ?_ ?_)
    · rw [hJ' 68 (by decide) (by decide) (by decide), e3]
      exact fun e => m0 (mz.mp e)
    refine ⟨2 ^ m' + 1, l285a (I := am_u J' 66 0 0) (c := c) (m := m') hc hm (by rw [e68]; exact e3) (by rw [e68]; exact e2) (by
      rw [e68]
      intro k hk
      obtain ⟨g, i, g1, g2, _, _, g5, g6⟩ := hp k hk
      exact ⟨g, i, g1, g2, g5, g6⟩) (fun J2 k1 k2 => ?_) (2 ^ m') 0 _ (by omega) (fun c _ => rfl) (fun i hi => absurd hi (by omega))⟩
    rw [e68] at k2 ⊢
    have i2 : Inv D N T r J2 L := inv_scr hD iJ (fun c hc => k1 c (by omega))
    rw [exb_ct]
    by_cases z : fb_ct (fit (I 68) c) (2 ^ m') = 0
    · refine am_ifp (by rw [decide_eq_false (fun q => q z)]; rfl) ⟨g1 z, i2⟩
    · refine am_ifn (by rw [decide_eq_true z]; decide) ?_
      refine ⟨2 ^ m' - 1 + 1, l285b (I := J2) (F := fit (I 68) c) (m := m') hm (by rw [k1 68 (by decide), e68]; exact e3) k2 (fun J3 w a b k3 k4 => ?_) (2 ^ m' - 1) 0 J2 (-1) 100000000 (by omega) (fun c _ => rfl) (Or.inr rfl) (fun _ => rfl)⟩
      have i3 : Inv D N T r J3 L := inv_scr hD i2 (fun c hc => k3 c (by omega))
      rcases k4 with k4 | k4
      · obtain ⟨q1, q2⟩ := g2 z a b k4
        by_cases x0 : x1 = 0
        · exact am_ifp x0 ⟨q1 x0, i3⟩
        · exact am_ifn x0 ⟨q2 x0, i3⟩
      · omega
  have gz : nI (fb_ct (fit (I 68) c) (2 ^ m')) = 0 ↔ fb_ct (fit (I 68) c) (2 ^ m') = 0 := nb_inj (b := 0) (by omega) (by decide)
  by_cases z : fb_ct (fit (I 68) c) (2 ^ m') = 0
  · refine am_ifp (by rw [hg.2.2.1]; exact gz.mpr z) ?_
    exact mdl _ J (fun c c1 c2 _ => hg.1 c c1 c2) (fun _ => rfl) (fun q => absurd z q)
  · refine am_ifn (by rw [hg.2.2.1]; exact fun e => z (gz.mp e)) ?_
    refine q160 (F := fit (I 68) c) hm (by omega) (by rw [hg.1 1 (by decide) (by decide)]; exact a1) hg.2.2.1 hg.2.2.2 (fun J' k1 k2 => ?_)
    have kk : ∀ c, c ≠ 59 → c ≠ 60 → c ≠ 61 → J' c = I c := fun c c1 c2 c3 => (k1 c c1 c3).trans (hg.1 c c1 c2)
    by_cases x0 : x1 = 0
    · refine am_ifp x0 ?_
      exact mdl _ J' kk (fun q => absurd q z) (fun _ a b k4 => ⟨fun _ => (BG_one k2 k4).1, fun q => absurd x0 q⟩)
    · refine am_ifn x0 ?_
      exact mdl _ J' kk (fun q => absurd q z) (fun _ a b k4 => ⟨fun q => absurd q x0, fun _ => (BG_one k2 k4).2⟩)
