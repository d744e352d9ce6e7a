/-! rests, by the reference; the call -/
theorem l277c {I : am_I} {L : am_J} {fx : Option LWX} {m w : Nat} {v1 v3 : Int32} {E : Int32 → Int32 → Int32 → am_I → am_J → Prop} (hm : m ≤ 8) (em : I 68 1 = nI m) (hP : ∀ p, p < m → PWd I m p) (hF : LOr (I 68) (I 68 4) fx) (hw : w < 2 ^ m) (hE : ∀ G M u, frL I G L M → E (nI (rdO (S0 I fx) w m)) (b1 (rdC (S0 I fx) w m)) u G M) : ∀ q j G M, j + q = m → frL I G L M → lw_277_41 (q + 1) v1 (nI (rdO (S0 I fx) w j)) v3 (b1 (rdC (S0 I fx) w j)) (nI j) G M E
  | 0, j, G, M, hj, hG => by
    have e : j = m := by omega
    subst e
    unfold lw_277_41
    rw [hG.1 68 (by decide), em, if_pos (nI_le (Nat.le_refl _) (by omega))]
    exact hE G M _ hG
  | q + 1, j, G, M, hj, hG => by
    have p2 : 2 ^ m ≤ 256 := Nat.pow_le_pow_right (n := 2) (j := 8) (by decide) hm
    have wl := rdO_lt (S := S0 I fx) hm hw j (by omega)
    obtain ⟨s1, s2⟩ := psk (w := rdO (S0 I fx) w j) (d := j) (by omega) (by omega)
    have eO : rdO (S0 I fx) w (j + 1) = sb (rdO (S0 I fx) w j) j (n1 (S0 I fx j (pc (sb (rdO (S0 I fx) w j) j 0)))) := rfl
    have eC : rdC (S0 I fx) w (j + 1) = (rdC (S0 I fx) w j || !decide (n1 (S0 I fx j (pc (sb (rdO (S0 I fx) w j) j 0))) = bi (rdO (S0 I fx) w j) j)) := rfl
    have ih := fun H N => l277c (v1 := v1) (v3 := v3) hm em hP hF hw hE q (j + 1) H N (by omega)
    rw [eO, eC] at ih
    have pl := pc_le (rdO (S0 I fx) w j)
    have bl := bi_lt (rdO (S0 I fx) w j) j
    obtain ⟨b0, b1'⟩ := sb_sum (rdO (S0 I fx) w j) (by omega) j (by omega)
    unfold lw_277_41
    rw [hG.1 68 (by decide), em, if_neg (nI_ge (by omega) (by omega)), ← nI_succ]
    refine q236 (by omega) ?_
    have ek : nI (pc (rdO (S0 I fx) w j)) - ((nI (rdO (S0 I fx) w j) >>> (nI j &&& 31)) &&& 1) = nI (pc (sb (rdO (S0 I fx) w j) j 0)) := by
      have q := q20 (w := rdO (S0 I fx) w j) (d := j) (by omega) (by omega)
      unfold f_20 at q
      rw [q, nb_sub (by omega), show pc (rdO (S0 I fx) w j) - bi (rdO (S0 I fx) w j) j = pc (sb (rdO (S0 I fx) w j) j 0) by omega]
    rw [ek]
    refine r245 (fx := fx) (PWd_fr (hP j (by omega)) hG) (by rw [hG.1 68 (by decide)]; exact hF) (smI_n (by omega)) (fun H N hH' => ?_)
    have hH : frL I H L N := frL_t hG hH'
    have es : sty G fx j (pc (sb (rdO (S0 I fx) w j) j 0) : Int) = S0 I fx j (pc (sb (rdO (S0 I fx) w j) j 0)) := sty_cg (hG.1 4 (by decide)) (hG.1 5 (by decide)) (hG.1 12 (by decide)) (hG.1 68 (by decide)) _ _
    rw [es]
    have ih2 := ih H N hH
    rcases f248i (x := nI (rdO (S0 I fx) w j)) (d := j) rfl (by omega) (by omega) with ⟨f1, f2⟩ | ⟨f1, f2⟩
    · rw [f1]
      rw [f2] at ih2
      cases hs : S0 I fx j (pc (sb (rdO (S0 I fx) w j) j 0)) with
      | false =>
        rw [hs] at ih2
        refine am_ifp rfl ?_
        rw [show n1 false = 0 from rfl, (b0 f2).2, decide_eq_true rfl, Bool.not_true, Bool.or_false] at ih2
        exact ih2
      | true =>
        rw [hs] at ih2
        refine am_ifn (by decide) (am_ifn (by decide) ?_)
        rw [show n1 true = 1 from rfl, (b0 f2).1, decide_eq_false (by decide), Bool.not_false, Bool.or_true] at ih2
        rw [q1s j (by omega), nb_add]
        exact ih2
    · rw [f1]
      rw [f2] at ih2
      cases hs : S0 I fx j (pc (sb (rdO (S0 I fx) w j) j 0)) with
      | true =>
        rw [hs] at ih2
        refine am_ifp rfl ?_
        rw [show n1 true = 1 from rfl, (b1' f2).2, decide_eq_true rfl, Bool.not_true, Bool.or_false] at ih2
        exact ih2
      | false =>
        rw [hs] at ih2
        refine am_ifn (by decide) (am_ifp rfl ?_)
        rw [show n1 false = 0 from rfl, decide_eq_false (by decide), Bool.not_false, Bool.or_true] at ih2
        have e3 : nI (rdO (S0 I fx) w j) + -((1 : Int32) <<< (nI j &&& 31)) = nI (sb (rdO (S0 I fx) w j) j 0) := by
          have s := (b1' f2).1
          have e4 : nI (rdO (S0 I fx) w j) = nI (sb (rdO (S0 I fx) w j) j 0) + nI (2 ^ j) := by rw [nb_add, s]
          rw [q1s j (by omega), e4, Int32.add_neg_eq_sub, Int32.add_sub_cancel]
        rw [e3]
        exact ih2
theorem l277b {I : am_I} {L : am_J} {fx : Option LWX} {m : Nat} {v1 : Int32} {E : Int32 → Int32 → Int32 → am_I → am_J → Prop} (hm : m ≤ 8) (em : I 68 1 = nI m) (hP : ∀ p, p < m → PWd I m p) (hF : LOr (I 68) (I 68 4) fx) (hE : ∀ n G M, n ≤ 50 → rgo (S0 I fx) m n → (n = 50 ∨ rrC (S0 I fx) m n = false) → frL I G L M → E (nI (rrO (S0 I fx) m n)) (nI n) (b1 (rrC (S0 I fx) m n)) G M) : ∀ q n G M, n + q = 50 → rgo (S0 I fx) m n → frL I G L M → lw_277_24 (q + 1) v1 (nI (rrO (S0 I fx) m n)) (nI n) (b1 (rrC (S0 I fx) m n)) G M E
  | 0, n, G, M, hn, hg, hG => by
    have e : n = 50 := by omega
    subst e
    have h := hE 50 G M (Nat.le_refl _) hg (Or.inl rfl) hG
    unfold lw_277_24
    cases hb : rrC (S0 I fx) m 50 with
    | false =>
      rw [hb] at h
      rw [if_pos (show b1 false = 0 from rfl)]
      exact h
    | true =>
      rw [hb] at h
      rw [if_neg (by decide), if_pos (by decide)]
      exact h
  | q + 1, n, G, M, hn, hg, hG => by
    unfold lw_277_24
    cases hb : rrC (S0 I fx) m n with
    | false =>
      have h := hE n G M (by omega) hg (Or.inr hb) hG
      rw [hb] at h
      rw [if_pos (show b1 false = 0 from rfl)]
      exact h
    | true =>
      rw [if_neg (by decide), if_neg (show ¬ (50 : Int32) ≤ nI n from nI_ge (b := 50) (by omega) (by decide))]
      refine ⟨m + 1, l277c (I := I) (L := L) (fx := fx) (w := rrO (S0 I fx) m n) hm em hP hF (rrO_lt hm n) (fun H N u hH => ?_) m 0 G M (by omega) hG⟩
      rw [← nI_succ]
      refine l277b hm em hP hF hE q (n + 1) H N (by omega) (fun i hi => ?_) hH
      by_cases ei : i = n
      · rw [ei]
        exact hb
      · exact hg i (by omega)
theorem rgo_one {S : Nat → Nat → Bool} {m n n' : Nat} (h1 : n ≤ 50) (h2 : rgo S m n) (h3 : n = 50 ∨ rrC S m n = false) (g1 : n' ≤ 50) (g2 : rgo S m n') (g3 : n' = 50 ∨ rrC S m n' = false) : n = n' := by
  rcases Nat.lt_trichotomy n n' with c | c | c
  · rcases h3 with z | z
    · omega
    · rw [g2 n c] at z
      cases z
  · exact c
  · rcases g3 with z | z
    · omega
    · rw [h2 n' c] at z
      cases z
theorem l145a {T : Nat → Nat × Nat} {r : Nat → Nat → Option Nat} {I : am_I} {E : Int32 → am_I → Prop} (hE : ∀ J u, (∀ c, c ≠ 27 → J c = I c) → (∀ y, y < 8 → J 27 y = 0) → E u J) : ∀ q j J, j + q = 8 → (∀ c, c ≠ 27 → J c = I c) → (∀ y, y < j → J 27 y = 0) → lw_145_2 (q + 1) (nI j) T r J E
  | 0, j, J, h, h1, h2 => by
    have hj : j = 8 := by omega
    subst hj
    unfold lw_145_2
    rw [if_pos (by decide)]
    exact hE J _ h1 h2
  | q + 1, j, J, h, h1, h2 => by
    unfold lw_145_2
    rw [if_neg (show ¬ (8 : Int32) ≤ nI j from nI_ge (b := 8) (by omega) (by decide))]
    refine ⟨nb_gd (by omega) (by decide), ?_⟩
    rw [nI_clamp (by omega), ← nI_succ]
    refine l145a hE q (j + 1) _ (by omega) (fun c hc => by rw [uu_h hc]; exact h1 c hc) (fun y hy => ?_)
    by_cases e : y = j
    · subst e
      exact uu_e
    · rw [uu_n e]
      exact h2 y (by omega)
theorem S0_cg {I G : am_I} {fx : Option LWX} (h4 : G 4 = I 4) (h5 : G 5 = I 5) (h12 : G 12 = I 12) (h68 : G 68 = I 68) : S0 G fx = S0 I fx := by
  funext p k
  exact sty_cg h4 h5 h12 h68 p k
theorem o_28 {D : am_P} (hD : FrD D) (hL : FrL D) (hW : hasL D) {N : Nat} {T : Nat → Nat × Nat} {r : Nat → Nat → Option Nat} {I : am_I} {L : am_J} (h : Inv D N T r I L) (x1 : Int32) : op_28 x1 (Inv D) N T r I L := by
  unfold op_28 w_144
  obtain ⟨m, v, hm, hv, e1, e2, e3, hp⟩ := h.1.2.1
  obtain ⟨l, hl, l1, l2, l3, l4⟩ := h.1.2.2.2.1
  have i0 := inv_0 hD h
  have hP : ∀ p, p < m → PWd I m p := fun p hp => PWd_of h.1 e1 hm hp
  have dl := hW _ _ _ _ _ h.2
  rcases q18 x1 with ⟨b1', b3, _, _⟩ | ⟨b1', b3, bb, hbb, _⟩
  · rw [if_pos b1']
    show w_277 _ _ _ _
    unfold w_277
    rw [b182]
    exact am_ifp b3 ⟨rfl, i0⟩
  rw [if_neg (by rw [b1']; decide)]
  have n3 : ¬ f_13 x1 0 1 = 0 := by rw [b3]; decide
  obtain ⟨fx, hr, hc0⟩ := lawX dl hl l1 (x := I 1 16) (by rw [l3]; exact l4)
  have hr' : LOr (I 68) (I 68 4) fx := by
    rw [l3] at hr
    exact hr
  have hc : ∀ G, (∀ c, c ≠ 23 → c ≠ 24 → c ≠ 25 → c ≠ 26 → c ≠ 27 → c ≠ 28 → G c = I c) → ∀ K : Option Nat → Prop, (∀ o, LOc T r G o fx → K o) → w_108 (G 1 16) T r G K := by
    intro G hG K hK
    have g1 : G 1 = I 1 := hG 1 (by decide) (by decide) (by decide) (by decide) (by decide) (by decide)
    have k := hc0 K (fun o ho => hK o (LOc_cg ho (fun c hc => hG c (by omega) (by omega) (by omega) (by omega) (by omega) (by omega))))
    unfold w_108 f_106 at k ⊢
    rw [g1]
    exact k
  have mdl : ∀ (n : Nat) (q : Int32) (G : am_I), n ≤ 50 → rgo (S0 I fx) m n → (n = 50 ∨ rrC (S0 I fx) m n = false) → (∀ c, c ≠ 23 → c ≠ 24 → c ≠ 25 → c ≠ 26 → c ≠ 27 → c ≠ 28 → G c = I c) → (rrC (S0 I fx) m n = true → q = -1) → (rrC (S0 I fx) m n = false → (x1 = 0 → q = nI (rrO (S0 I fx) m n)) ∧ (¬ x1 = 0 → q = nI n)) → w_277 x1 G L (fun q2 I2 L2 => q = q2 ∧ Inv D N T r I2 L2) := by
    intro n q G n1' n2 n3' hG g1 g2
    have g68 : G 68 = I 68 := hG 68 (by decide) (by decide) (by decide) (by decide) (by decide) (by decide)
    have e68 : am_u G 66 0 0 68 = I 68 := by rw [uu_h (by decide)]; exact g68
    have e4 : am_u G 66 0 0 4 = I 4 := by rw [uu_h (by decide)]; exact hG 4 (by decide) (by decide) (by decide) (by decide) (by decide) (by decide)
    have e5 : am_u G 66 0 0 5 = I 5 := by rw [uu_h (by decide)]; exact hG 5 (by decide) (by decide) (by decide) (by decide) (by decide) (by decide)
    have e12 : am_u G 66 0 0 12 = I 12 := by rw [uu_h (by decide)]; exact hG 12 (by decide) (by decide) (by decide) (by decide) (by decide) (by decide)
    have hP0 : ∀ p, p < m → PWd (am_u G 66 0 0) m p := fun p hp => PWd_cg (hP p hp) (by rw [uu_h (by decide)]; exact hG 1 (by decide) (by decide) (by decide) (by decide) (by decide) (by decide)) e4 e5 (by rw [uu_h (by decide)]; exact hG 7 (by decide) (by decide) (by decide) (by decide) (by decide) (by decide)) e12 e68 (by rw [uu_n (by decide), hG 66 (by decide) (by decide) (by decide) (by decide) (by decide) (by decide)])
    have eS : S0 (am_u G 66 0 0) fx = S0 I fx := S0_cg e4 e5 e12 e68
    unfold w_277
    rw [b182, if_neg n3]
    refine ⟨51, l277b (I := am_u G 66 0 0) (L := L) (fx := fx) hm (by rw [e68]; exact e2) hP0 (by rw [e68]; exact hr') (fun n' H M m1 m2 m3 hH => ?_) 50 0 _ L (by omega) (fun i hi => absurd hi (by omega)) (frL_0 _ _)⟩
    rw [eS] at m2 m3 ⊢
    have en := rgo_one n1' n2 n3' m1 m2 m3
    subst en
    have iH : Inv D N T r H M := inv_law hD hL h hG hH
    cases hb : rrC (S0 I fx) m n with
    | false =>
      obtain ⟨k1, k2⟩ := g2 hb
      refine am_ifp rfl ?_
      by_cases x0 : x1 = 0
      · exact am_ifp x0 ⟨k1 x0, iH⟩
      · exact am_ifn x0 ⟨k2 x0, iH⟩
    | true => exact am_ifn (by decide) ⟨g1 hb, iH⟩
  unfold w_145
  refine ⟨9, l145a (I := I) (fun J u j1 j2 => ?_) 8 0 I (by omega) (fun c _ => rfl) (fun y hy => absurd hy (by omega))⟩
  refine ⟨51, l145b (T := T) (r := r) (I := am_u J 23 1 0) (fx := fx) (m := m) hm (by rw [uu_c (by decide), j1 1 (by decide)]; exact e1) (fun p hp => PWd_cg (hP p hp) (by rw [uu_h (by decide)]; exact j1 1 (by decide)) (by rw [uu_h (by decide)]; exact j1 4 (by decide)) (by rw [uu_h (by decide)]; exact j1 5 (by decide)) (by rw [uu_h (by decide)]; exact j1 7 (by decide)) (by rw [uu_h (by decide)]; exact j1 12 (by decide)) (by rw [uu_h (by decide)]; exact j1 68 (by decide)) (by rw [uu_c (by decide), j1 66 (by decide)])) (fun G hG => hc G (fun c c1 c2 c3 c4 c5 c6 => by rw [hG c c1 c2 c3 c4 c5 c6, uu_h c1]; exact j1 c c5)) (fun n G u n1' n2 n3' hG g1 g2 => ?_) 50 0 _ (by omega) (fun i hi => absurd hi (by omega)) ⟨fun c _ _ _ _ _ _ => rfl, fun k _ _ => rfl⟩ (fun p k hp hk hb => ?_) uu_e (fun q => absurd q (by omega))⟩
  · have eS : S0 (am_u J 23 1 0) fx = S0 I fx := S0_cg (by rw [uu_h (by decide)]; exact j1 4 (by decide)) (by rw [uu_h (by decide)]; exact j1 5 (by decide)) (by rw [uu_h (by decide)]; exact j1 12 (by decide)) (by rw [uu_h (by decide)]; exact j1 68 (by decide))
    rw [eS] at n2 n3' g1 ⊢
    have hG' : ∀ c, c ≠ 23 → c ≠ 24 → c ≠ 25 → c ≠ 26 → c ≠ 27 → c ≠ 28 → G c = I c := fun c c1 c2 c3 c4 c5 c6 => by
      rw [hG.1 c c1 c2 c3 c4 c5 c6, uu_h c1]
      exact j1 c c5
    cases hb : rrC (S0 I fx) m n with
    | false =>
      have np : 1 ≤ n := by
        rcases Nat.eq_zero_or_pos n with z | z
        · rw [z] at hb
          cases hb
        · exact z
      refine am_ifp rfl (am_ifn (by decide) ?_)
      by_cases x0 : x1 = 0
      · refine am_ifp x0 ?_
        exact mdl n _ G n1' n2 n3' hG' (fun q => by rw [hb] at q; cases q) (fun _ => ⟨fun _ => g1, fun q => absurd x0 q⟩)
      · refine am_ifn x0 ?_
        exact mdl n _ G n1' n2 n3' hG' (fun q => by rw [hb] at q; cases q) (fun _ => ⟨fun q => absurd q x0, fun _ => g2 np⟩)
    | true =>
      refine am_ifn (by decide) (am_ifp rfl ?_)
      exact mdl n _ G n1' n2 n3' hG' (fun _ => rfl) (fun q => by rw [hb] at q; cases q)
  · rw [uu_c (by decide), j2 p (by omega), b_0] at hb
    cases hb
