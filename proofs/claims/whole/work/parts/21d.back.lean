/-! back -/
theorem l183 {I : am_I} {k : Nat} {E : Int32 → am_I → Prop} (hk : k < 2) (hE : ∀ J u, (∀ c, c ≠ 68 → J c = I c) → (∀ i, i < 5510 → J 68 i = I 69 (5510 * k + i)) → E u J) : ∀ q j J, j + q = 5510 → (∀ c, c ≠ 68 → J c = I c) → (∀ i, i < j → J 68 i = I 69 (5510 * k + i)) → lw_183_39 (q + 1) (nI k) (nI j) J E
  | 0, j, J, h, h1, h2 => by
    have e : j = 5510 := by omega
    subst e
    unfold lw_183_39
    rw [if_pos (show (5510 : Int32) ≤ nI 5510 from nI_le (a := 5510) (Nat.le_refl _) (by decide))]
    exact hE J _ h1 h2
  | q + 1, j, J, h, h1, h2 => by
    unfold lw_183_39
    have x0 : 5510 * nI k + nI j = nI (5510 * k + j) := by
      rw [show (5510 : Int32) * nI k = nI (5510 * k) from nb_mul 5510 k, nb_add]
    rw [if_neg (show ¬ (5510 : Int32) ≤ nI j from nI_ge (b := 5510) (by omega) (by decide)), x0]
    refine ⟨nb_gd (by omega) (by decide), nb_gd (by omega) (by decide), ?_⟩
    rw [nI_clamp (by omega), nI_clamp (by omega), ← nI_succ, h1 69 (by decide)]
    refine l183 hk hE q (j + 1) _ (by omega) (fun c hc => by rw [uu_h hc]; exact h1 c hc) (fun i hi => ?_)
    by_cases e : i = j
    · rw [e, uu_e]
    · rw [uu_n e]
      exact h2 i (by omega)
theorem l181 {I : am_I} {k : Nat} {E : Int32 → am_I → Prop} (hk : k < 2) (hE : ∀ J u, (∀ c, c ≠ 69 → J c = I c) → (∀ i, i < 5510 → J 69 (5510 * k + i) = I 68 i) → (∀ i, (i < 5510 * k ∨ 5510 * k + 5510 ≤ i) → J 69 i = I 69 i) → E u J) : ∀ q j J, j + q = 5510 → (∀ c, c ≠ 69 → J c = I c) → (∀ i, i < j → J 69 (5510 * k + i) = I 68 i) → (∀ i, (i < 5510 * k ∨ 5510 * k + 5510 ≤ i) → J 69 i = I 69 i) → lw_181_23 (q + 1) (nI k) (nI j) J E
  | 0, j, J, h, h1, h2, h3 => by
    have e : j = 5510 := by omega
    subst e
    unfold lw_181_23
    rw [if_pos (show (5510 : Int32) ≤ nI 5510 from nI_le (a := 5510) (Nat.le_refl _) (by decide))]
    exact hE J _ h1 h2 h3
  | q + 1, j, J, h, h1, h2, h3 => by
    unfold lw_181_23
    have x0 : 5510 * nI k + nI j = nI (5510 * k + j) := by
      rw [show (5510 : Int32) * nI k = nI (5510 * k) from nb_mul 5510 k, nb_add]
    rw [if_neg (show ¬ (5510 : Int32) ≤ nI j from nI_ge (b := 5510) (by omega) (by decide)), x0]
    refine ⟨nb_gd (by omega) (by decide), nb_gd (by omega) (by decide), ?_⟩
    rw [nI_clamp (by omega), nI_clamp (by omega), ← nI_succ, h1 68 (by decide)]
    refine l181 hk hE q (j + 1) _ (by omega) (fun c hc => by rw [uu_h hc]; exact h1 c hc) (fun i hi => ?_) (fun i hi => ?_)
    · by_cases e : i = j
      · rw [e, uu_e]
      · rw [uu_n (by omega)]
        exact h2 i (by omega)
    · rw [uu_n (by omega)]
      exact h3 i hi
theorem okT_cg {SZ N N' : Nat} {r r' : Nat → Nat → Option Nat} {t : Nat} (h : okT SZ N r t) (hN : N ≤ N') (h13 : ∀ k, k < 2 → r' 13 k = r 13 k) (h0 : r' 0 9 = r 0 9) : okT SZ N' r' t := by
  obtain ⟨a1, a2, a3, a4⟩ := h
  exact ⟨a1, by omega, fun k p hk hp => a3 k p hk (by rw [← h13 k hk]; exact hp), fun q hq => a4 q (by rw [← h0]; exact hq)⟩
theorem DIm_of {SZ N : Nat} {T : Nat → Nat × Nat} {r : Nat → Nat → Option Nat} {I : am_I} {L : am_J} {RT PL : TRI} (h : DD SZ RT PL N T r I L) {k : Nat} (hk : k < 2) : DIm SZ N T r I k := by
  rcases (by omega : k = 0 ∨ k = 1) with rfl | rfl
  · exact h.2.2.2.1
  · exact h.2.2.2.2.1
theorem DSl_cg {SZ N : Nat} {T : Nat → Nat × Nat} {r r' : Nat → Nat → Option Nat} {a : Nat} (h : DSl SZ N T r a) (h13 : ∀ k, k < 2 → r' 13 k = r 13 k) (h0 : r' 0 9 = r 0 9) (ha : ∀ j, r' a j = r a j) : DSl SZ N T r' a := by
  intro j t hj ht
  rw [ha] at ht
  obtain ⟨u1, u2⟩ := h j t hj ht
  exact ⟨okT_cg u1 (Nat.le_refl N) h13 h0, u2⟩
theorem DLa_cg2 {T : Nat → Nat × Nat} {r r' : Nat → Nat → Option Nat} {I J : am_I} {a a' : Nat} {x : Int32} {R R' : Nat → Int32} (h : DLa T r I a x R) (e : ∀ c, 99 ≤ c → J c = I c) (er : ∀ c j, 99 ≤ c → r' c j = r c j) (ea : ∀ j, j < 6 → r' a' j = r a j) (eR : ∀ i, 110 ≤ i → i < 5510 → R' i = R i) : DLa T r' J a' x R' := by
  intro l hl hx k hk
  obtain ⟨t, X, h1, h2, h3, h4⟩ := h l hl hx k hk
  have y1 : 99 ≤ t := by
    obtain ⟨c0, c3, c5, n, C, mk, y1, _⟩ := h3.1
    exact y1
  exact ⟨t, X, by rw [ea k (by omega)]; exact h1, h2, LAWd_cg h3 (fun c c1 c2 => ⟨rfl, fun j => er c j (by omega), e c (by omega)⟩), LAWr_cg h4 h2 (fun i i1 i2 => eR i (by omega) (by omega))⟩
theorem DIm_cg {SZ N : Nat} {T : Nat → Nat × Nat} {r r' : Nat → Nat → Option Nat} {I J : am_I} {k : Nat} (hk : k < 2) (h : DIm SZ N T r I k) (e : ∀ c, 99 ≤ c → J c = I c) (e69 : J 69 = I 69) (e70 : J 70 = I 70) (er : ∀ c j, 99 ≤ c → r' c j = r c j) (h13 : ∀ k, k < 2 → r' 13 k = r 13 k) (h0 : r' 0 9 = r 0 9) : DIm SZ N T r' J k := by
  rcases h with ⟨a1, a2⟩ | ⟨p, a1, a2, a3, a4, a5, a6, a7, a8, a9, a10, a11, a12⟩
  · exact Or.inl ⟨by rw [h13 k hk]; exact a1, by rw [e70]; exact a2⟩
  · have ei : imR J k = imR I k := by
      unfold imR
      rw [e69]
    refine Or.inr ⟨p, by rw [h13 k hk]; exact a1, by rw [e70]; exact a2, a3, a4, PSN_cg a5 a3 (fun _ _ _ => rfl) (fun j => er p j a3), DSl_cg a6 h13 h0 (fun j => er _ j (by omega)), ?_, ?_, ?_, ?_, ?_, ?_⟩
    · rw [ei, e p a3, e (p + 1) (by omega), e (p + 2) (by omega)]; exact a7
    · rw [ei, e p a3, e (p + 3) (by omega), e (p + 4) (by omega), e (p + 5) (by omega), e (p + 6) (by omega), e (p + 7) (by omega)]; exact a8
    · rw [ei, e p a3, e (p + 8) (by omega), e (p + 9) (by omega)]; exact a9
    · rw [ei, e p a3]; exact a10
    · rw [ei, e p a3, e (p + 11) (by omega)]; exact a11
    · rw [ei, e p a3]
      exact DLa_cg2 a12 e er (fun j _ => er _ j (by omega)) (fun i _ _ => rfl)
theorem fr11 (j : Nat) : am_fr 11 j := fun _ => rfl
theorem rs11 (r : Nat → Nat → Option Nat) (j : Nat) : am_rs r 11 j = r 11 j := rfl
theorem rs13 (r : Nat → Nat → Option Nat) (j : Nat) : am_rs r 13 j = r 13 j := rfl
theorem o_39 {SZ : Nat} {RT PL : TRI} (hR : frRT SZ RT) (hP : frPL PL) {N : Nat} {T : Nat → Nat × Nat} {r : Nat → Nat → Option Nat} {I : am_I} {L : am_J} (h : Inv (DD SZ RT PL) N T r I L) (x1 : Int32) : op_39 x1 (Inv (DD SZ RT PL)) N T r I L := by
  have hD := DD_fr hR hP
  unfold op_39 w_174
  rcases q18 x1 with ⟨b1', b3, _, _⟩ | ⟨b1', b3, k, hk, rfl⟩
  · rw [if_pos b1']
    refine rf1 ?_
    show w_183 _ _ _
    unfold w_183
    rw [b182]
    exact am_ifp b3 (tl1 ⟨rfl, inv_r1 hD h⟩)
  rw [if_neg (by rw [b1']; decide)]
  have n3 : ¬ f_13 (nI k) 0 1 = 0 := by rw [b3]; decide
  have g2 : ¬ (nI k < 0 ∨ 2 ≤ Int32.toNatClampNeg (nI k)) := nb_gd hk (by decide)
  refine ⟨g2, ?_⟩
  rw [nI_clamp (by omega : k < 2 ^ 31)] at g2 ⊢
  rw [rs13]
  rcases DIm_of h.2 hk with ⟨a1, a2⟩ | ⟨p, a1, a2, a3, a4, a5, a6, a7, a8, a9, a10, a11, a12⟩
  · rw [a1]
    refine ⟨fun _ => ?_, (fun t ht => by cases ht)⟩
    refine rf2 ?_
    show w_183 _ _ _
    unfold w_183
    rw [b182]
    refine am_ifn n3 ⟨nb_gd hk (by decide), ?_⟩
    rw [nI_clamp (by omega : k < 2 ^ 31)]
    exact am_ifp (show I 70 k = 0 from a2) (tl2 ⟨rfl, inv_r2 hD h⟩)
  · rw [a1]
    refine ⟨(fun q => by cases q), fun t1 ht => ?_⟩
    have et : t1 = p := (Option.some.inj ht).symm
    subst et
    refine q80 (fun r' _ => PSN_1 T r') (fun r' hr => PSN_cg a5 a3 (fun _ _ _ => rfl) (fun j => hr t1 j (by omega))) (Or.inl (by omega)) (fun j => fr11 j) (fun j t hj hjt => ?_) (fun r' F hr hF => ?_)
    · rw [am_rs_hi (by omega)] at hjt
      obtain ⟨u1, u2⟩ := a6 j t hj hjt
      rw [am_ts_hi u1.1]
      exact u2
    · obtain ⟨k1, k2, k3, k4, k5⟩ := hF
      have hF : CPY 1 t1 I F := ⟨k1, k2, k3, k4, k5⟩
      show w_24 _ _
      unfold w_24 w_16
      show w_183 _ _ _
      unfold w_183
      rw [b182]
      have F70 : F 70 = I 70 := k1 70 (by omega)
      refine am_ifn n3 ⟨nb_gd hk (by decide), ?_⟩
      rw [nI_clamp (by omega : k < 2 ^ 31)]
      refine am_ifn (show ¬ F 70 k = 0 by rw [F70, a2]; decide) ?_
      generalize hM : am_u (am_u (am_u (am_u F 29 0 0) 0 12 0) 0 10 0) 66 0 0 = M
      have M0 : ∀ c, c ≠ 0 → c ≠ 29 → c ≠ 66 → M c = F c := fun c c1 c2 c3 => by rw [← hM, uu_h c3, uu_h c1, uu_h c1, uu_h c2]
      refine ⟨5511, l183 (I := M) hk (fun J u j1 j2 => ?_) 5510 0 M (by omega) (fun c _ => rfl) (fun i hi => absurd hi (by omega))⟩
      refine st_0 (by decide) ⟨rfl, ?_⟩
      generalize hG : am_u (am_u J 66 8 0) 66 1 0 = G
      have G0 : ∀ c, c ≠ 66 → G c = J c := fun c hc => by rw [← hG, uu_h hc, uu_h hc]
      have GF : ∀ c, c ≠ 0 → c ≠ 29 → c ≠ 66 → c ≠ 68 → G c = F c := fun c c1 c2 c3 c4 => by rw [G0 c c3, j1 c c4, M0 c c1 c2 c3]
      have GI : ∀ c, (c < 1 ∨ 13 ≤ c ∨ c = 11) → c ≠ 0 → c ≠ 29 → c ≠ 66 → c ≠ 68 → G c = I c := fun c hc c1 c2 c3 c4 => by rw [GF c c1 c2 c3 c4]; exact k1 c (by omega)
      have G68 : ∀ i, i < 5510 → G 68 i = imR I k i := fun i hi => by
        rw [G0 68 (by decide), j2 i hi, M0 69 (by decide) (by decide) (by decide), k1 69 (by omega)]
        rfl
      have Gf : ∀ c, 1 ≤ c → c ≤ 12 → G c = F c := fun c c1 c2 => GF c (by omega) (by omega) (by omega) (by omega)
      have hC : CPX 1 t1 I G := by
        refine ⟨fun i hi => ?_, fun i j i1 i2 hj => ?_, fun i hi => ?_, fun j hj => ?_⟩
        · rw [Gf (1 + 1) (by omega) (by omega), Gf (1 + 2) (by omega) (by omega)]; exact k2 i hi
        · rw [Gf (1 + i) (by omega) (by omega)]; exact k3 i j i1 i2 hj
        · rw [Gf (1 + 11) (by omega) (by omega)]; exact k4 i hi
        · rw [Gf 1 (by omega) (by omega)]; exact k5 j hj
      obtain ⟨q1, q2, q3, q4, q5⟩ := PR_cp (R' := G 68) hC G68
      have pm := q2 a8
      have pm' := pm
      obtain ⟨m, v, hm, hv, m1, m2, m3, _⟩ := pm'
      obtain ⟨⟨h1, h2, h3, h4, h5, h6, h7, h8, h9, f1, f2, f3, f4, f5⟩, d1, d2, d3, d4, d5, d6, d7, d8, d9⟩ := h
      have G66 : ∀ i, i ≠ 0 → i ≠ 1 → i ≠ 8 → G 66 i = I 66 i := fun i i0 i1 i8 => by
        rw [← hG, uu_n i1, uu_n i8, j1 66 (by decide), ← hM, uu_n i0, uu_c (by decide), uu_c (by decide), uu_c (by decide), k1 66 (by omega)]
      have G14 : G 14 = I 14 := GI 14 (by omega) (by omega) (by omega) (by omega) (by omega)
      have r0 : ∀ c j, c ≠ 11 → r' c j = r c j := fun c j hc => hr.1 c j (fun q => hc q.1)
      have r13 : ∀ k, k < 2 → r' 13 k = r 13 k := fun k _ => r0 13 k (by decide)
      have r09 : r' 0 9 = r 0 9 := r0 0 9 (by decide)
      have e99 : ∀ c, 99 ≤ c → G c = I c := fun c hc => GI c (by omega) (by omega) (by omega) (by omega) (by omega)
      have r11 : ∀ j, j < 6 → r' 11 j = r (t1 + 10) j := fun j hj => by
        rw [show r' 11 j = am_rs r (t1 + 10) j from hr.2 j hj, am_rs_hi (by omega)]
      refine ⟨⟨q1 a7, pm, q3 a9, q4 a10, q5 a11, ?_, UNr_0 hm m2 ?_ ?_, ?_, ?_, ?_, ?_, ?_, ?_, f5⟩, d1, ?_, ?_, DIm_cg (by decide) d4 e99 ?_ ?_ (fun c j hc => r0 c j (by omega)) r13 r09, DIm_cg (by decide) d5 e99 ?_ ?_ (fun c j hc => r0 c j (by omega)) r13 r09, ?_, ?_, ?_, ?_⟩
      · rw [G14, G66 13 (by decide) (by decide) (by decide), GI 15 (by omega) (by omega) (by omega) (by omega) (by omega), GI 75 (by omega) (by omega) (by omega) (by omega) (by omega)]
        exact h6
      · rw [G0 29 (by decide), j1 29 (by decide), ← hM]
        rfl
      · rw [← hG, uu_n (by decide), uu_e]
      · rw [GI 63 (by omega) (by omega) (by omega) (by omega) (by omega), GI 64 (by omega) (by omega) (by omega) (by omega) (by omega), GI 98 (by omega) (by omega) (by omega) (by omega) (by omega), G66 60 (by decide) (by decide) (by decide), G66 61 (by decide) (by decide) (by decide)]
        exact h8
      · rw [GI 65 (by omega) (by omega) (by omega) (by omega) (by omega), GI 67 (by omega) (by omega) (by omega) (by omega) (by omega)]
        refine MSr_0 h9 ?_ (by rw [← hG, uu_e]) ?_ (G66 11 (by decide) (by decide) (by decide))
        · rw [G0 0 (by decide), j1 0 (by decide), ← hM]
          rfl
        · rw [G0 0 (by decide), j1 0 (by decide), ← hM]
          show F 0 13 = I 0 13
          rw [k1 0 (by omega)]
      · rw [G14, G66 18 (by decide) (by decide) (by decide)]
        exact f1
      · rw [GI 35 (by omega) (by omega) (by omega) (by omega) (by omega), G66 56 (by decide) (by decide) (by decide)]
        exact f2
      · rw [G66 20 (by decide) (by decide) (by decide)]
        exact f3
      · rw [GI 92 (by omega) (by omega) (by omega) (by omega) (by omega)]
        exact f4
      · intro j t hj hjt
        rw [r11 j hj] at hjt
        obtain ⟨u1, u2⟩ := a6 j t hj hjt
        exact ⟨okT_cg u1 (Nat.le_refl N) r13 r09, u2⟩
      · have e15 : G 1 15 = I t1 15 := hC.2.2.2 15 (by omega)
        rw [e15]
        exact DLa_cg2 a12 e99 (fun c j hc => r0 c j (by omega)) r11 (fun i _ i2 => G68 i i2)
      · exact GI 69 (by omega) (by omega) (by omega) (by omega) (by omega)
      · exact GI 70 (by omega) (by omega) (by omega) (by omega) (by omega)
      · exact GI 69 (by omega) (by omega) (by omega) (by omega) (by omega)
      · exact GI 70 (by omega) (by omega) (by omega) (by omega) (by omega)
      · intro p p' hp hp'
        rw [r13 0 (by decide)] at hp
        rw [r13 1 (by decide)] at hp'
        exact d6 p p' hp hp'
      · intro k' p q hk' hp hq
        rw [r13 k' hk'] at hp
        rw [r09] at hq
        exact d7 k' p q hk' hp hq
      · intro _
        rw [G0 0 (by decide), j1 0 (by decide), ← hM]
        rfl
      · intro q hq
        rw [r09] at hq
        obtain ⟨w1, w2, w3, _⟩ := d9 q hq
        refine ⟨w1, w2, hR T r I T r' G q w1 (fun c c1 _ => ⟨rfl, fun j => r0 c j (by omega), e99 c (by omega)⟩) w3, Or.inl ?_⟩
        rw [G0 0 (by decide), j1 0 (by decide), ← hM]
        rfl
