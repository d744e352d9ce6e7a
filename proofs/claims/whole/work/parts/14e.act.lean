/-! pass, inspect: class and reference apart, then together -/
theorem q102 {T : Nat → Nat × Nat} {r : Nat → Nat → Option Nat} {I : am_I} {u a : Nat} {K : Int32 → am_I → Prop} (hu : u ≤ 16) (e : I 29 0 = nI u) (ha : a ≤ 9999) (ea : I 12 0 = nI a) (h1 : a = 9999 → K (-3) I) (h2 : a < 9999 → ∀ J t s, t ≤ 15 → t + s = u → s ≤ 1 → (s = 0 ∨ u = 16) → kep I J t s 3 0 (nI a) 0 0 → K (nI (a + 1)) (am_u J 12 0 (nI (a + 1)))) : w_102 T r I K := by
  unfold w_102
  rw [ea]
  by_cases c : a = 9999
  · rw [if_neg (by rw [c]; decide)]
    exact h1 c
  · rw [if_pos (show nI a < 9999 from (nb_lt (a := a) (b := 9999) (by omega) (by decide)).mpr (by omega)), ← nI_succ]
    exact q97 hu e (fun J t s g1 g2 g3 g4 hk => h2 (by omega) J t s g1 g2 g3 g4 hk)
theorem q265 {I : am_I} {u a : Nat} {K : Int32 → am_I → Prop} (hu : u ≤ 16) (e : I 66 8 = nI u) (ha : a ≤ 9999) (ea : I 68 5 = nI a) (h1 : a = 9999 → K (-3) I) (h2 : a < 9999 → ∀ J t s, t ≤ 15 → t + s = u → s ≤ 1 → (s = 0 ∨ u = 16) → rmb I J t s 3 → K (nI (a + 1)) (am_u J 68 5 (nI (a + 1)))) : w_265 I K := by
  unfold w_265 w_237
  refine ⟨by decide, ?_⟩
  show (if I 68 5 = 9999 then _ else _)
  rw [ea]
  by_cases c : a = 9999
  · rw [if_pos (by rw [c]; rfl)]
    exact h1 c
  · rw [if_neg (show ¬ nI a = 9999 from fun q => c ((nb_inj (b := 9999) (by omega) (by decide)).mp q))]
    refine q255 hu e (fun J t s g1 g2 g3 g4 hk => ?_)
    refine ⟨by decide, ?_⟩
    show K (am_u J 68 5 (J 68 5 + 1) 68 5) (am_u J 68 5 (J 68 5 + 1))
    rw [uu_e, hk.1 68 (by decide) (by decide) (by decide), ea, ← nI_succ]
    exact h2 (by omega) J t s g1 g2 g3 g4 hk
theorem so0 {x : Int32} {I : am_I} {K : Int32 → am_I → Prop} (hx : 0 ≤ x) (h : K x (am_u (am_u I 0 12 0) 0 10 0)) : w_118 x I K := by
  unfold w_118
  rw [if_pos hx]
  exact h
theorem so2 {I : am_I} {K : Int32 → am_I → Prop} (h : K (-2) (am_u (am_u I 0 12 (-2)) 65 1 (I 65 1 + 1))) : w_118 (-2) I K := by
  unfold w_118
  rw [if_neg (by decide)]
  exact rf2 h
theorem so3 {I : am_I} {K : Int32 → am_I → Prop} (h : K (-3) (am_u (am_u I 0 12 (-3)) 65 2 (I 65 2 + 1))) : w_118 (-3) I K := by
  unfold w_118
  rw [if_neg (by decide)]
  exact rf3 h
/-- an act on both sides: what the class keeps, the reference remembers, and what became of the row -/
theorem inv_act {D : am_P} (hD : FrD D) {N : Nat} {T : Nat → Nat × Nat} {r : Nat → Nat → Option Nat} {I : am_I} {L : am_J} (h : Inv D N T r I L) {u m t s t' s' : Nat} {C M F : am_I} {x0 x1 x2 x3 x4 : Int32}
    (eu : I 29 0 = nI u) (em : I 68 1 = nI m) (hm0 : m ≤ 8) (g1 : t ≤ 15) (g2 : t + s = u) (g3 : s ≤ 1) (g4 : s = 0 ∨ u = 16) (gt : t' ≤ 15) (g5 : t' + s' = u) (g6 : s' ≤ 1) (g7 : s' = 0 ∨ u = 16) (kc : kep I C t s x0 x1 x2 x3 x4)
    (km : ∃ Z, (∀ c, c ≠ 0 → c ≠ 1 → c ≠ 6 → c ≠ 7 → c ≠ 12 → (c < 29 ∨ 34 < c) → c ≠ 66 → Z c = I c) ∧ (∀ i, i ≠ 0 → Z 66 i = I 66 i) ∧ rmb Z M t' s' x0)
    (f0 : ∀ c, c ≠ 0 → c ≠ 1 → c ≠ 6 → c ≠ 7 → c ≠ 12 → c ≠ 66 → c ≠ 68 → (29 ≤ c ∧ c ≤ 34 → F c = C c) ∧ ((c < 29 ∨ 34 < c) → F c = M c)) (f66 : ∀ i, i ≠ 1 → i ≠ 0 → F 66 i = M 66 i) (f661 : F 66 1 = 0) (f012 : F 0 12 = 0) (f010 : F 0 10 = 0) (f013 : F 0 13 = I 0 13)
    (f1 : ∀ i, i ≠ 18 → F 1 i = I 1 i) (f68 : ∀ i, (i < 5 ∨ 26 ≤ i) → F 68 i = I 68 i) (fm : PRm (F 1) (F 4) (F 5) (F 6) (F 7) (F 8) (F 68)) (ft : PRt (F 1) (F 12) (F 68)) (hv : usv m x0 x1 x2 x3 x4) (hst : ∀ i, i < 21 → I 68 (5 + i) = ust x0 x1 x2 x3 x4 (fun i => F 68 (5 + i)) i) : Inv D N T r F L := by
  obtain ⟨⟨h1, h2, h3, h4, h5, h6, h7, h8, h9, q1, q2, q3, q4, q5⟩, hdd⟩ := h
  obtain ⟨Z, z0, z1, rm⟩ := km
  have et : t' = t ∧ s' = s := by omega
  obtain ⟨rfl, rfl⟩ := et
  obtain ⟨kc1, kc2, kc3, kc4⟩ := kc
  obtain ⟨rm1, rm2, rm3, rm4, rm5, rm6, rm7, _⟩ := rm
  have low : ∀ c, c ≠ 0 → c ≠ 1 → c ≠ 6 → c ≠ 7 → c ≠ 12 → c ≠ 66 → c ≠ 68 → c ≠ 71 → c ≠ 72 → (c < 29 ∨ 34 < c) → F c = I c := by
    intro c c0 c1 c6 c7 c12 c66 c68 c71 c72 hc
    rw [(f0 c c0 c1 c6 c7 c12 c66 c68).2 hc, rm1 c c66 c71 c72, z0 c c0 c1 c6 c7 c12 hc c66]
  have F2 : F 2 = I 2 := by apply low <;> decide
  have F3 : F 3 = I 3 := by apply low <;> decide
  have F9 : F 9 = I 9 := by apply low <;> decide
  have F10 : F 10 = I 10 := by apply low <;> decide
  have F14 : F 14 = I 14 := by apply low <;> decide
  have F15 : F 15 = I 15 := by apply low <;> decide
  have F75 : F 75 = I 75 := by apply low <;> decide
  have F63 : F 63 = I 63 := by apply low <;> decide
  have F64 : F 64 = I 64 := by apply low <;> decide
  have F98 : F 98 = I 98 := by apply low <;> decide
  have F65 : F 65 = I 65 := by apply low <;> decide
  have F67 : F 67 = I 67 := by apply low <;> decide
  have F35 : F 35 = I 35 := by apply low <;> decide
  have F92 : F 92 = I 92 := by apply low <;> decide
  have F69 : F 69 = I 69 := by apply low <;> decide
  have F70 : F 70 = I 70 := by apply low <;> decide
  have Z68 : Z 68 = I 68 := by apply z0 <;> decide
  have Z71 : Z 71 = I 71 := by apply z0 <;> decide
  have Z72 : Z 72 = I 72 := by apply z0 <;> decide
  have k : ∀ c, 29 ≤ c → c ≤ 34 → F c = C c := fun c h1 h2 => (f0 c (by omega) (by omega) (by omega) (by omega) (by omega) (by omega) (by omega)).1 ⟨h1, h2⟩
  have F71 : F 71 = M 71 := (f0 71 (by decide) (by decide) (by decide) (by decide) (by decide) (by decide) (by decide)).2 (by decide)
  have F72 : F 72 = M 72 := (f0 72 (by decide) (by decide) (by decide) (by decide) (by decide) (by decide) (by decide)).2 (by decide)
  have F66 : ∀ i, i ≠ 0 → i ≠ 1 → i ≠ 8 → F 66 i = I 66 i := fun i h0 h1 h8 => by rw [f66 i h1 h0, rm2 i h8, z1 i h0]
  obtain ⟨u', m', hu', hm', a1, a2, a3, old⟩ := h7
  have eu' : u' = u := by
    rw [eu] at a2
    have hb : u < 2 ^ 31 := by omega
    exact ((nb_inj hb (by omega)).mp a2).symm
  have em' : m' = m := by
    rw [em] at a1
    exact ((nb_inj (by omega) (by omega)).mp a1).symm
  subst eu' em'
  refine ⟨⟨?_, fm, ?_, ?_, ft, ?_, ?_, ?_, ?_, ?_⟩, hD _ _ _ I _ _ ⟨fun c hc => ?_, f1 15 (by decide), fun i hi => f68 i (by omega), F69, F70, Or.inl f010⟩ hdd⟩
  · rw [F2, F3]
    exact PRd_cg h1 (f1 2 (by decide)) (f1 3 (by decide)) (fun _ _ => rfl) (fun _ _ => rfl) (f68 0 (by omega)) (fun i g1 g2 => f68 i (by omega))
  · rw [F9, F10]
    exact PRc_cg h3 (f1 13 (by decide)) (f68 1 (by omega)) (f68 2 (by omega)) (fun i g1 g2 => f68 i (by omega))
  · exact PRl_cg h4 (f1 15 (by decide)) (f1 16 (by decide)) (f68 3 (by omega)) (f68 4 (by omega))
  · rw [F14, F15, F75, F66 13 (by decide) (by decide) (by decide)]
    exact h6
  · rw [F71, F72, k 29 (by decide) (by decide), k 30 (by decide) (by decide), k 31 (by decide) (by decide), k 32 (by decide) (by decide), k 33 (by decide) (by decide), k 34 (by decide) (by decide), f66 8 (by decide) (by decide)]
    refine UNr_push (I := I) hm' g1 g2 g3 old kc2 rm3 kc3 kc4 (fun k hk => ?_) (fun i hi => ?_) (fun j hj => ?_) rm7 hv ((f68 1 (by omega)).trans em) hst
    · rw [rm4 k hk, Z71]
    · rw [rm5 i hi, Z68]
    · rw [rm6 j hj, Z72]
  · rw [F63, F64, F98, F66 60 (by decide) (by decide) (by decide), F66 61 (by decide) (by decide) (by decide)]
    exact h8
  · rw [F65, F67]
    obtain ⟨m1, m2, m3, m4, m5, m6, m7⟩ := h9
    exact ⟨f012.trans f661.symm, m2, m3, m4, m5, m6, by rw [f013, F66 11 (by decide) (by decide) (by decide)]; exact m7⟩
  · rw [F14, F35, F92]
    exact ⟨by rw [F66 18 (by decide) (by decide) (by decide)]; exact q1, by rw [F66 56 (by decide) (by decide) (by decide)]; exact q2, by rw [F66 20 (by decide) (by decide) (by decide)]; exact q3, q4, q5⟩
  · exact low c (by omega) (by omega) (by omega) (by omega) (by omega) (by omega) (by omega) (by omega) (by omega) (by omega)
theorem inv_act2 {D : am_P} (hD : FrD D) {N : Nat} {T : Nat → Nat × Nat} {r : Nat → Nat → Option Nat} {I : am_I} {L : am_J} (h : Inv D N T r I L) {u m t s t' s' : Nat} {C C1 M G : am_I} {x0 x1 x2 x3 x4 : Int32}
    (eu : I 29 0 = nI u) (em : I 68 1 = nI m) (hm0 : m ≤ 8) (g1 : t ≤ 15) (g2 : t + s = u) (g3 : s ≤ 1) (g4 : s = 0 ∨ u = 16) (gt : t' ≤ 15) (g5 : t' + s' = u) (g6 : s' ≤ 1) (g7 : s' = 0 ∨ u = 16) (kc : kep I C t s x0 x1 x2 x3 x4)
    (hC : ∀ c, c ≠ 1 → c ≠ 6 → c ≠ 7 → c ≠ 12 → C1 c = C c) (hC1 : ∀ i, i ≠ 18 → C1 1 i = I 1 i) (rm : rmb (am_u (am_u (am_u C1 0 12 0) 0 10 0) 66 0 0) M t' s' x0) (hG : ∀ c, c ≠ 68 → G c = M c) (hG68 : ∀ i, (i < 5 ∨ 26 ≤ i) → G 68 i = I 68 i)
    (fm : PRm (C1 1) (I 4) (I 5) (C1 6) (C1 7) (I 8) (G 68)) (ft : PRt (C1 1) (C1 12) (G 68)) (hv : usv m x0 x1 x2 x3 x4) (hst : ∀ i, i < 21 → I 68 (5 + i) = ust x0 x1 x2 x3 x4 (fun i => G 68 (5 + i)) i) : Inv D N T r (am_u G 66 1 0) L := by
  have hM : ∀ c, c ≠ 0 → c ≠ 66 → c ≠ 71 → c ≠ 72 → M c = C1 c := fun c c0 c66 c71 c72 => by rw [rm.1 c c66 c71 c72, uu_h c66, uu_h c0, uu_h c0]
  have hM0 : M 0 = am_u (am_u C1 0 12 0) 0 10 0 0 := by rw [rm.1 0 (by decide) (by decide) (by decide), uu_h (by decide)]
  have hg : ∀ c, c ≠ 66 → c ≠ 68 → am_u G 66 1 0 c = M c := fun c c66 c68 => by rw [uu_h c66, hG c c68]
  have e1 : am_u G 66 1 0 1 = C1 1 := by rw [hg 1 (by decide) (by decide), hM 1 (by decide) (by decide) (by decide) (by decide)]
  have e6 : am_u G 66 1 0 6 = C1 6 := by rw [hg 6 (by decide) (by decide), hM 6 (by decide) (by decide) (by decide) (by decide)]
  have e7 : am_u G 66 1 0 7 = C1 7 := by rw [hg 7 (by decide) (by decide), hM 7 (by decide) (by decide) (by decide) (by decide)]
  have e12 : am_u G 66 1 0 12 = C1 12 := by rw [hg 12 (by decide) (by decide), hM 12 (by decide) (by decide) (by decide) (by decide)]
  have e0 : am_u G 66 1 0 0 = am_u (am_u C1 0 12 0) 0 10 0 0 := by rw [hg 0 (by decide) (by decide), hM0]
  have e4 : am_u G 66 1 0 4 = I 4 := by rw [hg 4 (by decide) (by decide), hM 4 (by decide) (by decide) (by decide) (by decide), hC 4 (by decide) (by decide) (by decide) (by decide), kc.1 4 (by decide)]
  have e5 : am_u G 66 1 0 5 = I 5 := by rw [hg 5 (by decide) (by decide), hM 5 (by decide) (by decide) (by decide) (by decide), hC 5 (by decide) (by decide) (by decide) (by decide), kc.1 5 (by decide)]
  have e8 : am_u G 66 1 0 8 = I 8 := by rw [hg 8 (by decide) (by decide), hM 8 (by decide) (by decide) (by decide) (by decide), hC 8 (by decide) (by decide) (by decide) (by decide), kc.1 8 (by decide)]
  have e68 : am_u G 66 1 0 68 = G 68 := uu_h (by decide)
  refine inv_act hD h eu em hm0 g1 g2 g3 g4 gt g5 g6 g7 kc ⟨_, fun c c0 c1 c6 c7 c12 hc c66 => ?_, fun i hi => ?_, rm⟩ (fun c c0 c1 c6 c7 c12 c66 c68 => ⟨fun hc => ?_, fun hc => hg c c66 c68⟩) (fun i i1 i0 => ?_) uu_e ?_ ?_ ?_ (fun i hi => ?_) (fun i hi => ?_) ?_ ?_ hv ?_
  · rw [uu_h c66, uu_h c0, uu_h c0, hC c c1 c6 c7 c12, kc.1 c hc]
  · rw [uu_n hi, uu_c (by decide), uu_c (by decide), hC 66 (by decide) (by decide) (by decide) (by decide), kc.1 66 (by decide)]
  · rw [hg c c66 c68, hM c c0 c66 (by omega) (by omega), hC c c1 c6 c7 c12]
  · rw [uu_n i1, hG 66 (by decide)]
  · rw [e0, uu_n (by decide), uu_e]
  · rw [e0, uu_e]
  · rw [e0, uu_n (by decide), uu_n (by decide), hC 0 (by decide) (by decide) (by decide) (by decide), kc.1 0 (by decide)]
  · rw [e1]
    exact hC1 i hi
  · rw [e68]
    exact hG68 i hi
  · rw [e1, e4, e5, e6, e7, e8, e68]
    exact fm
  · rw [e1, e12, e68]
    exact ft
  · rw [e68]
    exact hst
theorem o_21 {D : am_P} (hD : FrD D) {N : Nat} {T : Nat → Nat × Nat} {r : Nat → Nat → Option Nat} {I : am_I} {L : am_J} (h : Inv D N T r I L) : op_21 (Inv D) N T r I L := by
  unfold op_21 w_121
  obtain ⟨m, v, hm, hv, e1, e2, e3, hp⟩ := id h.1.2.1
  obtain ⟨a, b, c, d, e, ha, hb1, hb2, hc, hd, he, q1, q2, q3, q4, q5, s1, s2, s3, s4, s5⟩ := id h.1.2.2.2.2.1
  obtain ⟨u, m', hu, hm', w1, eu, eu2, old⟩ := id h.1.2.2.2.2.2.2.1
  refine q102 hu eu ha q1 (fun z => ?_) (fun z C t s g1 g2 g3 g4 kc => ?_)
  · refine so3 ?_
    show w_264 _ _
    unfold w_264
    refine q265 (u := u) (a := a) hu eu2 ha s1 (fun _ => ?_) (fun z' => absurd z (by omega))
    exact tl3 ⟨rfl, inv_r3 hD h⟩
  · refine so0 (nI_pos' (by omega)) ?_
    show w_264 _ _
    unfold w_264
    have c66 : C 66 = I 66 := kc.1 66 (by decide)
    have c68 : C 68 = I 68 := kc.1 68 (by decide)
    refine q265 (u := u) (a := a) hu (show C 66 8 = nI u by rw [c66]; exact eu2) ha (show C 68 5 = nI a by rw [c68]; exact s1) (fun z' => absurd z (by omega)) (fun _ M t' s' k1 k2 k3 k4 rm => ?_)
    refine tl0 (nI_pos' (by omega)) ⟨rfl, ?_⟩
    have M68 : M 68 = I 68 := by
      rw [rm.1 68 (by decide) (by decide) (by decide)]
      exact c68
    have G68 : ∀ i, i ≠ 5 → am_u M 68 5 (nI (a + 1)) 68 i = I 68 i := fun i hi => by rw [uu_n hi, M68]
    refine inv_act2 hD h eu e2 hm g1 g2 g3 g4 k1 k2 k3 k4 kc (fun c n1 n6 n7 n12 => uu_h n12) (fun i _ => ?_) rm (fun c hc => uu_h hc) (fun i hi => G68 i (by omega)) ?_ ?_ (Or.inr (Or.inr (Or.inr ⟨rfl, a, ha, rfl⟩))) (fun i hi => ?_)
    · rw [uu_h (by decide), kc.1 1 (by decide)]
    · rw [uu_h (by decide), uu_h (by decide), uu_h (by decide), kc.1 1 (by decide), kc.1 6 (by decide), kc.1 7 (by decide)]
      exact PRm_cg h.1.2.1 rfl rfl (G68 1 (by decide)) (fun i _ _ => G68 i (by omega))
    · rw [uu_h (show (1 : Nat) ≠ 12 by decide), kc.1 1 (by decide)]
      refine ⟨a + 1, b, c, d, e, by omega, hb1, hb2, hc, hd, he, uu_e, ?_, ?_, ?_, q5, uu_e, (G68 6 (by decide)).trans s2, (G68 7 (by decide)).trans s3, (G68 8 (by decide)).trans s4, (G68 9 (by decide)).trans s5⟩
      · rw [uu_n (by decide), kc.1 12 (by decide)]
        exact q2
      · rw [uu_n (by decide), kc.1 12 (by decide)]
        exact q3
      · rw [uu_n (by decide), kc.1 12 (by decide)]
        exact q4
    · unfold ust
      rw [if_neg (by decide), if_neg (by decide), if_neg (by decide)]
      by_cases i0 : i = 0
      · rw [if_pos i0, i0]
        exact s1
      · rw [if_neg i0]
        exact (G68 _ (by omega)).symm
