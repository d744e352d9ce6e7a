/-! image -/
theorem img_fin {SZ : Nat} {RT PL : TRI} (hR : frRT SZ RT) {N N1 : Nat} {T T1 : Nat → Nat × Nat} {r r1 r' : Nat → Nat → Option Nat} {I I1 F G : am_I} {L L1 : am_J} {k p : Nat} (h : Inv (DD SZ RT PL) N T r I L) (hk : k < 2) (hN : N ≤ N1) (p1 : 99 ≤ p) (p2 : p + 12 ≤ N1) (hp : PSN T1 r1 p)
    (hT : ∀ c, c < N → T1 c = T c) (hr : ∀ c j, c < N → c ≠ 13 → r1 c j = r c j) (r13 : r1 13 k = some p) (r13' : ∀ k', k' < 2 → k' ≠ k → r1 13 k' = r 13 k') (hI : ∀ c, c < N → I1 c = I c) (hL : ∀ c, c < N → L1 c = L c)
    (s1 : ∀ t, okT SZ N r t → t + 5 ≤ p ∨ p + 12 ≤ t) (s2 : ∀ k' p', k' < 2 → k' ≠ k → r 13 k' = some p' → p' + 12 ≤ p ∨ p + 12 ≤ p') (s3 : ∀ q, r 0 9 = some q → p + 12 ≤ q ∨ q + SZ ≤ p)
    (cr : CPR p 1 r1 r') (cy : CPY p 1 I1 F)
    (g0 : ∀ c, c ≠ 0 → c ≠ 66 → c ≠ 69 → c ≠ 70 → G c = F c) (g1 : ∀ i, i ≠ 10 → i ≠ 12 → G 0 i = F 0 i) (g2 : G 0 10 = 0) (g3 : G 0 12 = 0) (g4 : ∀ i, i ≠ 0 → i ≠ 1 → G 66 i = F 66 i) (g5 : G 66 1 = 0) (g6 : ∀ i, i < 5510 → G 69 (5510 * k + i) = F 68 i) (g7 : ∀ i, (i < 5510 * k ∨ 5510 * k + 5510 ≤ i) → G 69 i = F 69 i) (g8 : G 70 k = 1) (g9 : ∀ i, i ≠ k → G 70 i = F 70 i) : Inv (DD SZ RT PL) N1 T1 r' G L1 := by
  obtain ⟨⟨h1, h2, h3, h4, h5, h6, h7, h8, h9, f1, f2, f3, f4, f5⟩, d1, d2, d3, d4, d5, d6, d7, d8, d9⟩ := h
  obtain ⟨k1, kx⟩ := cy
  have FI : ∀ c, c < N → (c < p ∨ p + 12 ≤ c) → F c = I c := fun c hc hp => by rw [k1 c (by omega), hI c hc]
  have F9 : ∀ c, c < 99 → F c = I c := fun c hc => FI c (by omega) (by omega)
  have G9 : ∀ c, c < 99 → c ≠ 0 → c ≠ 66 → c ≠ 69 → c ≠ 70 → G c = I c := fun c hc c0 c1 c2 c3 => by rw [g0 c c0 c1 c2 c3, F9 c hc]
  have GI : ∀ c, 99 ≤ c → c < N → (c < p ∨ p + 12 ≤ c) → G c = I c := fun c c1 c2 c3 => by rw [g0 c (by omega) (by omega) (by omega) (by omega), FI c c2 c3]
  have GF : ∀ c, 99 ≤ c → G c = F c := fun c hc => g0 c (by omega) (by omega) (by omega) (by omega)
  have rr : ∀ c j, c < N → c ≠ 13 → c ≠ p + 10 → r' c j = r c j := fun c j hc c1 c2 => by rw [cr.1 c j (fun q => c2 q.1), hr c j hc c1]
  have r'13 : ∀ k', r' 13 k' = r1 13 k' := fun k' => cr.1 13 k' (fun q => by have := q.1; omega)
  have r'09 : r' 0 9 = r 0 9 := rr 0 9 (by omega) (by decide) (by omega)
  have r'11 : ∀ j, r' 11 j = r 11 j := fun j => rr 11 j (by omega) (by decide) (by omega)
  have r'p : ∀ j, j < 6 → r' (p + 10) j = r 11 j := fun j hj => by
    rw [cr.2 j hj]
    show r1 11 j = r 11 j
    exact hr 11 j (by omega) (by decide)
  have okN : ∀ t, okT SZ N r t → okT SZ N1 r' t := by
    intro t ht
    have sp := s1 t ht
    obtain ⟨a1, a2, a3, a4⟩ := ht
    refine ⟨a1, by omega, fun k' p' hk' hp' => ?_, fun q hq => a4 q (by rw [← r'09]; exact hq)⟩
    rw [r'13] at hp'
    by_cases e : k' = k
    · rw [e, r13] at hp'
      rw [← Option.some.inj hp']
      exact sp
    · rw [r13' k' hk' e] at hp'
      exact a3 k' p' hk' hp'
  have lawN : ∀ t X, okT SZ N r t → LAWd T r I t X → LAWd T1 r' G t X := by
    intro t X ht hX
    have sp := s1 t ht
    have a1 := ht.1
    have a2 := ht.2.1
    exact LAWd_cg hX (fun c c1 c2 => ⟨hT c (by omega), fun j => rr c j (by omega) (by omega) (by omega), GI c (by omega) (by omega) (by omega)⟩)
  have slN : ∀ a b, DSl SZ N T r a → (∀ j, j < 6 → r' b j = r a j) → DSl SZ N1 T1 r' b := by
    intro a b ha hb j t hj ht
    rw [hb j hj] at ht
    obtain ⟨u1, u2⟩ := ha j t hj ht
    exact ⟨okN t u1, by rw [hT t (by have := u1.2.1; omega)]; exact u2⟩
  have laN : ∀ a b x R R', DSl SZ N T r a → DLa T r I a x R → (∀ j, j < 6 → r' b j = r a j) → (∀ i, i < 5510 → R' i = R i) → DLa T1 r' G b x R' := by
    intro a b x R R' hs ha hb hRR l hl hx j hj
    obtain ⟨t, X, u1, u2, u3, u4⟩ := ha l hl hx j hj
    refine ⟨t, X, by rw [hb j (by omega)]; exact u1, u2, lawN t X (hs j t (by omega) u1).1 u3, LAWr_cg u4 u2 (fun i i1 i2 => hRR i (by omega))⟩
  have imN : ∀ k', k' < 2 → k' ≠ k → DIm SZ N T r I k' → DIm SZ N1 T1 r' G k' := by
    intro k' hk' ne hi
    have er : r' 13 k' = r 13 k' := by rw [r'13, r13' k' hk' ne]
    have e70 : G 70 k' = I 70 k' := by rw [g9 k' ne, F9 70 (by decide)]
    have ei : ∀ i, i < 5510 → imR G k' i = imR I k' i := fun i hi => by
      unfold imR
      rw [g7 (5510 * k' + i) (by omega), F9 69 (by decide)]
    rcases hi with ⟨a1, a2⟩ | ⟨p', a1, a2, a3, a4, a5, a6, a7, a8, a9, a10, a11, a12⟩
    · exact Or.inl ⟨by rw [er]; exact a1, by rw [e70]; exact a2⟩
    · have sp := s2 k' p' hk' ne a1
      have ec : ∀ i, i < 12 → G (p' + i) = I (p' + i) := fun i hi => GI (p' + i) (by omega) (by omega) (by omega)
      have e0 : G p' = I p' := ec 0 (by decide)
      have pp : PSN T1 r' p' := PSN_cg a5 a3 (fun c c1 c2 => hT c (by omega)) (fun j => rr p' j (by omega) (by omega) (by omega))
      have cx : CPX p' p' I G := ⟨fun i hi => by rw [ec 1 (by decide), ec 2 (by decide)]; exact ⟨rfl, rfl⟩, fun i j i1 i2 _ => by rw [ec i (by omega)], fun i _ => by rw [ec 11 (by decide)], fun j _ => by rw [e0]⟩
      obtain ⟨q1, q2, q3, q4, q5⟩ := PR_cp (R' := imR G k') (R := imR I k') cx ei
      have rp' : ∀ j, j < 6 → r' (p' + 10) j = r (p' + 10) j := fun j _ => rr _ j (by omega) (by omega) (by omega)
      exact Or.inr ⟨p', by rw [er]; exact a1, by rw [e70]; exact a2, a3, by omega, pp, slN _ _ a6 rp', q1 a7, q2 a8, q3 a9, q4 a10, q5 a11, by rw [e0]; exact laN _ _ _ _ _ a6 a12 rp' ei⟩
  have imK : DIm SZ N1 T1 r' G k := by
    have ei : ∀ i, i < 5510 → imR G k i = I 68 i := fun i hi => by
      unfold imR
      rw [g6 i hi, F9 68 (by decide)]
    have i1 : ∀ i, i < 12 → I1 (1 + i) = I (1 + i) := fun i hi => hI _ (by omega)
    have cx : CPX p 1 I G := by
      obtain ⟨k2, k3, k4, k5⟩ := kx
      refine ⟨fun i hi => ?_, fun i j j1 j2 hj => ?_, fun i hi => ?_, fun j hj => ?_⟩
      · rw [GF (p + 1) (by omega), GF (p + 2) (by omega), ← i1 1 (by decide), ← i1 2 (by decide)]; exact k2 i hi
      · rw [GF (p + i) (by omega), ← i1 i (by omega)]; exact k3 i j j1 j2 hj
      · rw [GF (p + 11) (by omega), ← i1 11 (by decide)]; exact k4 i hi
      · rw [GF p p1, ← show I1 1 = I 1 from i1 0 (by decide)]; exact k5 j hj
    obtain ⟨q1, q2, q3, q4, q5⟩ := PR_cp (R' := imR G k) (R := I 68) cx ei
    have pp : PSN T1 r' p := PSN_cg hp p1 (fun _ _ _ => rfl) (fun j => cr.1 p j (fun q => by have := q.1; omega))
    refine Or.inr ⟨p, by rw [r'13]; exact r13, g8, p1, p2, pp, slN 11 _ d2 r'p, q1 h1, q2 h2, q3 h3, q4 h4, q5 h5, ?_⟩
    rw [cx.2.2.2 15 (by omega)]
    exact laN _ _ _ _ _ d2 d3 r'p ei
  have G66 : ∀ i, i ≠ 0 → i ≠ 1 → G 66 i = I 66 i := fun i i0 i1 => by rw [g4 i i0 i1, F9 66 (by decide)]
  refine ⟨?_, by omega, slN 11 11 d2 (fun j _ => r'11 j), ?_, ?_, ?_, ?_, ?_, fun _ => g2, ?_⟩
  · unfold StR
    rw [G9 1 (by decide) (by decide) (by decide) (by decide) (by decide), G9 2 (by decide) (by decide) (by decide) (by decide) (by decide), G9 3 (by decide) (by decide) (by decide) (by decide) (by decide), G9 4 (by decide) (by decide) (by decide) (by decide) (by decide), G9 5 (by decide) (by decide) (by decide) (by decide) (by decide), G9 6 (by decide) (by decide) (by decide) (by decide) (by decide), G9 7 (by decide) (by decide) (by decide) (by decide) (by decide), G9 8 (by decide) (by decide) (by decide) (by decide) (by decide), G9 9 (by decide) (by decide) (by decide) (by decide) (by decide), G9 10 (by decide) (by decide) (by decide) (by decide) (by decide), G9 12 (by decide) (by decide) (by decide) (by decide) (by decide), G9 14 (by decide) (by decide) (by decide) (by decide) (by decide), G9 15 (by decide) (by decide) (by decide) (by decide) (by decide), G9 29 (by decide) (by decide) (by decide) (by decide) (by decide), G9 30 (by decide) (by decide) (by decide) (by decide) (by decide), G9 31 (by decide) (by decide) (by decide) (by decide) (by decide), G9 32 (by decide) (by decide) (by decide) (by decide) (by decide), G9 33 (by decide) (by decide) (by decide) (by decide) (by decide), G9 34 (by decide) (by decide) (by decide) (by decide) (by decide), G9 35 (by decide) (by decide) (by decide) (by decide) (by decide), G9 63 (by decide) (by decide) (by decide) (by decide) (by decide), G9 64 (by decide) (by decide) (by decide) (by decide) (by decide), G9 65 (by decide) (by decide) (by decide) (by decide) (by decide), G9 67 (by decide) (by decide) (by decide) (by decide) (by decide), G9 68 (by decide) (by decide) (by decide) (by decide) (by decide), G9 71 (by decide) (by decide) (by decide) (by decide) (by decide), G9 72 (by decide) (by decide) (by decide) (by decide) (by decide), G9 75 (by decide) (by decide) (by decide) (by decide) (by decide), G9 92 (by decide) (by decide) (by decide) (by decide) (by decide), G9 98 (by decide) (by decide) (by decide) (by decide) (by decide)]
    rw [G66 8 (by decide) (by decide), G66 13 (by decide) (by decide), G66 18 (by decide) (by decide), G66 20 (by decide) (by decide), G66 56 (by decide) (by decide), G66 60 (by decide) (by decide), G66 61 (by decide) (by decide)]
    refine ⟨h1, h2, h3, h4, h5, h6, h7, h8, MSr_0 h9 g3 g5 ?_ (G66 11 (by decide) (by decide)), f1, f2, f3, f4, ?_⟩
    · rw [g1 13 (by decide) (by decide), F9 0 (by decide)]
    · obtain ⟨e1, e2, e3⟩ := f5
      exact ⟨(hL 81 (by omega)).trans e1, (hL 82 (by omega)).trans e2, (hL 83 (by omega)).trans e3⟩
  · rw [G9 1 (by decide) (by decide) (by decide) (by decide) (by decide), G9 68 (by decide) (by decide) (by decide) (by decide) (by decide)]
    exact laN _ _ _ _ _ d2 d3 (fun j _ => r'11 j) (fun i _ => rfl)
  · by_cases e : 0 = k
    · rw [e]; exact imK
    · exact imN 0 (by decide) e d4
  · by_cases e : 1 = k
    · rw [e]; exact imK
    · exact imN 1 (by decide) e d5
  · intro a b ha hb
    rw [r'13] at ha hb
    by_cases e : 0 = k
    · rw [← e] at r13 r13' s2
      rw [r13] at ha
      rw [r13' 1 (by decide) (by decide)] at hb
      rw [← Option.some.inj ha]
      have := s2 1 b (by decide) (by decide) hb
      omega
    · have e1 : k = 1 := by omega
      rw [e1] at r13 r13' s2
      rw [r13] at hb
      rw [r13' 0 (by decide) (by decide)] at ha
      rw [← Option.some.inj hb]
      exact s2 0 a (by decide) (by decide) ha
  · intro k' a q hk' ha hq
    rw [r'13] at ha
    rw [r'09] at hq
    by_cases e : k' = k
    · rw [e, r13] at ha
      rw [← Option.some.inj ha]
      exact s3 q hq
    · rw [r13' k' hk' e] at ha
      exact d7 k' a q hk' ha hq
  · intro q hq
    rw [r'09] at hq
    obtain ⟨w1, w2, w3, _⟩ := d9 q hq
    have sp := s3 q hq
    refine ⟨w1, by omega, hR T r I T1 r' G q w1 (fun c c1 c2 => ⟨hT c (by omega), fun j => rr c j (by omega) (by omega) (by omega), GI c (by omega) (by omega) (by omega)⟩) w3, Or.inl g2⟩
theorem fr13 (j : Nat) : am_fr 13 j := fun _ => rfl
theorem o_38 {SZ : Nat} {RT PL : TRI} (hR : frRT SZ RT) (hP : frPL PL) {N : Nat} {T : Nat → Nat × Nat} {r : Nat → Nat → Option Nat} {I : am_I} {L : am_J} (h : Inv (DD SZ RT PL) N T r I L) (x1 : Int32) : op_38 x1 (Inv (DD SZ RT PL)) N T r I L := by
  have hD := DD_fr hR hP
  unfold op_38 w_173
  rcases q18 x1 with ⟨b1', b3, _, _⟩ | ⟨b1', b3, k, hk, rfl⟩
  · rw [if_pos b1']
    refine rf1 ?_
    show w_181 _ _ _
    unfold w_181
    rw [b182]
    exact am_ifp b3 (tl1 ⟨rfl, inv_r1 hD h⟩)
  rw [if_neg (by rw [b1']; decide)]
  have n3 : ¬ f_13 (nI k) 0 1 = 0 := by rw [b3]; decide
  have g2 : ¬ (nI k < 0 ∨ 2 ≤ Int32.toNatClampNeg (nI k)) := nb_gd hk (by decide)
  refine ⟨g2, ?_⟩
  rw [nI_clamp (by omega : k < 2 ^ 31)] at g2 ⊢
  rw [rs13]
  -- the copy, class and reference, from a state in which image k has its prison p
  have body : ∀ (N1 p : Nat) (T1 : Nat → Nat × Nat) (r1 : Nat → Nat → Option Nat) (I1 : am_I) (L1 : am_J), N ≤ N1 → 99 ≤ p → p + 12 ≤ N1 → PSN T1 r1 p → (∀ c, c < N → T1 c = T c) → (∀ c j, c < N → c ≠ 13 → r1 c j = r c j) → r1 13 k = some p → (∀ k', k' < 2 → k' ≠ k → r1 13 k' = r 13 k') → (∀ c, c < N → I1 c = I c) → (∀ c, c < N → L1 c = L c) → (∀ t, okT SZ N r t → t + 5 ≤ p ∨ p + 12 ≤ t) → (∀ k' p', k' < 2 → k' ≠ k → r 13 k' = some p' → p' + 12 ≤ p ∨ p + 12 ≤ p') → (∀ q, r 0 9 = some q → p + 12 ≤ q ∨ q + SZ ≤ p) → w_80 p 1 N1 T1 r1 I1 (fun N5 T5 r5 I6 => w_16 0 I6 (fun q7 I8 => w_181 (nI k) I8 (fun q2 I2 => q7 = q2 ∧ Inv (DD SZ RT PL) N5 T5 r5 I2 L1))) := by
    intro N1 p T1 r1 I1 L1 hN p1 p2 hp hT hr r13 r13' hI hL s1 s2 s3
    have n99 := h.2.1
    refine q80 (fun r' hr' => PSN_cg hp p1 (fun _ _ _ => rfl) (fun j => hr' p j (by omega))) (fun r' _ => PSN_1 T1 r') (Or.inr (by omega)) (fun j => am_fr_hi (by omega)) (fun j t hj hjt => ?_) (fun r' F cr cy => ?_)
    · have e : r1 11 j = r 11 j := hr 11 j (by omega) (by decide)
      have hjt : r1 11 j = some t := hjt
      rw [e] at hjt
      obtain ⟨u1, u2⟩ := h.2.2.1 j t hj hjt
      rw [am_ts_hi u1.1, hT t (by have := u1.2.1; omega)]
      exact u2
    · unfold w_16
      show w_181 _ _ _
      unfold w_181
      rw [b182]
      refine am_ifn n3 ?_
      generalize hM : am_u (am_u (am_u F 0 12 0) 0 10 0) 66 0 0 = M
      have M0 : ∀ c, c ≠ 0 → c ≠ 66 → M c = F c := fun c c1 c2 => by rw [← hM, uu_h c2, uu_h c1, uu_h c1]
      refine ⟨5511, l181 (I := M) hk (fun J u j1 j2 j3 => ?_) 5510 0 M (by omega) (fun c _ => rfl) (fun i hi => absurd hi (by omega)) (fun i _ => rfl)⟩
      refine ⟨nb_gd hk (by decide), ?_⟩
      rw [nI_clamp (by omega : k < 2 ^ 31), show vp_nar .boolean 1 = 1 from rfl]
      refine tl0 (by decide) ⟨rfl, ?_⟩
      have e0 : ∀ c, c ≠ 66 → c ≠ 70 → am_u (am_u J 70 k 1) 66 1 0 c = J c := fun c c1 c2 => by rw [uu_h c1, uu_h c2]
      refine img_fin hR (L1 := L1) h hk hN p1 p2 hp hT hr r13 r13' hI hL s1 s2 s3 cr cy (fun c c0 c66 c69 c70 => ?_) (fun i i10 i12 => ?_) ?_ ?_ (fun i i0 i1 => ?_) uu_e (fun i hi => ?_) (fun i hi => ?_) ?_ (fun i hi => ?_)
      · rw [e0 c c66 c70, j1 c c69, M0 c c0 c66]
      · rw [e0 0 (by decide) (by decide), j1 0 (by decide), ← hM, uu_c (by decide), uu_n i10, uu_n i12]
      · rw [e0 0 (by decide) (by decide), j1 0 (by decide), ← hM]
        rfl
      · rw [e0 0 (by decide) (by decide), j1 0 (by decide), ← hM]
        rfl
      · rw [uu_n i1, uu_c (by decide), j1 66 (by decide), ← hM, uu_n i0, uu_c (by decide), uu_c (by decide)]
      · rw [e0 69 (by decide) (by decide), j2 i hi, M0 68 (by decide) (by decide)]
      · rw [e0 69 (by decide) (by decide), j3 i hi, M0 69 (by decide) (by decide)]
      · rw [uu_c (by decide), uu_e]
      · rw [uu_c (by decide), uu_n hi, j1 70 (by decide), M0 70 (by decide) (by decide)]
  have dd := h.2
  obtain ⟨d1, d2, d3, d4, d5, d6, d7, d8, d9⟩ := dd
  rcases DIm_of h.2 hk with ⟨a1, a2⟩ | ⟨p, a1, a2, a3, a4, a5, a6, a7, a8, a9, a10, a11, a12⟩
  · rw [a1]
    refine ⟨fun _ => ?_, (fun t ht => by cases ht)⟩
    have tN : am_tn T N 7 0 N = (7, 0) := tn_e rfl
    refine ⟨d1, by rw [am_ts_hi d1, tN], ?_⟩
    refine q1n d1 tN (fun T2 r2 I2 L2 hN hI hL => ?_)
    have hN' := hN
    obtain ⟨m1, m2, m3, _⟩ := hN'
    have e13 : (am_ts T2 13).1 = 23 := rfl
    have eN : (am_ts T2 N).1 = 7 := by rw [am_ts_hi d1, m1 N (Nat.le_refl N), tN]
    refine ⟨fr13 k, Or.inl ⟨e13, eN⟩, ?_, eN, ?_⟩
    · show ¬ (nI k < 0 ∨ 2 ≤ k)
      exact g2
    · have ps : PSN T2 (am_u r2 13 k (some N)) N := PSN_cg (NEW_P d1 tN hN (fun _ _ _ => rfl)) d1 (fun _ _ _ => rfl) (fun j => uu_c (by omega))
      exact body (N + 12) N T2 (am_u r2 13 k (some N)) I2 L2 (by omega) d1 (Nat.le_refl _) ps (fun c hc => by rw [m1 c (by omega), tn_o (by omega)]) (fun c j hc c13 => by rw [show am_u r2 13 k (some N) c j = r2 c j from uu_c c13, m2 c j hc, z_o (by omega)]) uu_e (fun k' hk' ne => by rw [show am_u r2 13 k (some N) 13 k' = r2 13 k' from uu_n ne, m2 13 k' (by omega), z_o (by omega)]) (fun c hc => by rw [hI c hc]; funext j; exact z_o (by omega)) (fun c hc => by rw [hL c hc]; funext j; exact z_o (by omega)) (fun t ht => Or.inl ht.2.1) (fun k' p' hk' ne hp' => by
        rcases DIm_of h.2 hk' with ⟨z1, _⟩ | ⟨p2, z1, _, _, z4, _⟩
        · rw [z1] at hp'
          cases hp'
        · rw [z1] at hp'
          rw [← Option.some.inj hp']
          exact Or.inl z4) (fun q hq => Or.inr (d9 q hq).2.1)
  · rw [a1]
    refine ⟨(fun q => by cases q), fun t1 ht => ?_⟩
    have et : t1 = p := (Option.some.inj ht).symm
    subst et
    refine ⟨a5.1, ?_⟩
    refine body N t1 T r I L (Nat.le_refl N) a3 a4 a5 (fun _ _ => rfl) (fun _ _ _ _ => rfl) a1 (fun _ _ _ => rfl) (fun _ _ => rfl) (fun _ _ => rfl) (fun t ht => ht.2.2.1 k t1 hk a1) (fun k' p' hk' ne hp' => ?_) (fun q hq => d7 k t1 q hk a1 hq)
    rcases (by omega : (k = 0 ∧ k' = 1) ∨ (k = 1 ∧ k' = 0)) with ⟨e1, e2⟩ | ⟨e1, e2⟩
    · rw [e1] at a1
      rw [e2] at hp'
      have := d6 t1 p' a1 hp'
      omega
    · rw [e1] at a1
      rw [e2] at hp'
      exact d6 p' t1 hp' a1
