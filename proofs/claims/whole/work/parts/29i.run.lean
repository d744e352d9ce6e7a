/-! orders: the call -/
theorem fr46 (j : Nat) : am_fr 46 j := fun _ => rfl
theorem o_13 {N : Nat} {T : Nat → Nat × Nat} {r : Nat → Nat → Option Nat} {I : am_I} {L : am_J} (h : Inv DR N T r I L) : op_13 (Inv DR) N T r I L := by
  have h0 := h
  obtain ⟨hst, hdd⟩ := h
  have hst0 := hst
  obtain ⟨h1, h2, h3, h4, h5, h6, h7, h8, h9, f1, f2, f3, f4, f5⟩ := hst
  obtain ⟨b, z, hB, hBr⟩ := tp_by h6
  have hN : 99 ≤ N := hdd.1
  unfold op_13 w_78
  refine q39 (law := false) (CL := clO) (b := b) (z := z) rfl ⟨hB.1, by rw [uu_c (by decide)]; exact hB.2.1, fun k hk => by rw [uu_c (by decide)]; exact hB.2.2 k hk⟩ (fun n C B => c72) (Or.inr ⟨rfl, rfl⟩) (fun hl j e G fk g1 g2 jl => ?_) (fun hl j l e mk s M G fk g1 g2 s4 e1 cd tx => ?_)
  · refine am_ifp rfl (rf6 ?_)
    exact ord_F h0 hBr hl e fk g1 g2
  refine am_ifn (by decide) ?_
  have gi : ∀ c, c ≠ 14 → ¬ (16 ≤ c ∧ c ≤ 22) → c ≠ 35 → G c = I c := fun c c1 c2 c3 => by rw [fk.1 c (by omega) (by omega) (by omega) (by omega) (by omega) (by omega) (by omega) (by omega), uu_h c3]
  have g35 : G 35 1 = -1 := by rw [fk.1 35 (by decide) (by decide) (by decide) (by decide) (by decide) (by decide) (by decide) (by decide), uu_e]
  unfold w_79
  refine q80 (a := 36) (x := 1) (fun r' _ => PSN_36 T r') (fun r' _ => PSN_1 T r') (Or.inr (by decide)) (fun j => fr46 j) (fun j t hj ht => ?_) (fun r1 F1 cr1 cp1 => ?_)
  · have ht : r 11 j = some t := ht
    obtain ⟨u1, u2⟩ := hdd.2.1 j t hj ht
    rw [am_ts_hi u1.1]
    exact u2
  refine q81 (PSU_48 T r1) (PSU_29 T r1) (Or.inr (by decide)) (fun J1 j1 j10 jc => ?_)
  obtain ⟨A, eA⟩ : ∃ A, A = am_u (am_u J1 35 0 0) 35 2 (-1) := ⟨_, rfl⟩
  rw [← eA]
  have jF : ∀ c, (c < 48 ∨ 54 ≤ c) → J1 c = F1 c := fun c hc => j1 c (by omega)
  have fG : ∀ c, (c < 36 ∨ 48 ≤ c) → F1 c = G c := fun c hc => cp1.1 c (by omega)
  have aJ : ∀ c, c ≠ 35 → A c = J1 c := fun c hc => by rw [eA, uu_h hc, uu_h hc]
  have A0 : ∀ c, (c < 35 ∨ 54 ≤ c) → A c = G c := fun c hc => by rw [aJ c (by omega), jF c (by omega), fG c (by omega)]
  have AI : ∀ c, (c < 35 ∨ 54 ≤ c) → c ≠ 14 → ¬ (16 ≤ c ∧ c ≤ 22) → A c = I c := fun c c0 c1 c2 => by rw [A0 c c0]; exact gi c c1 c2 (by omega)
  have A35 : A 35 1 = -1 := by rw [eA, uu_n (by decide), uu_n (by decide), jF 35 (by omega), fG 35 (by omega)]; exact g35
  obtain ⟨u, mm, hu, hmm, w1, eu, eu2, old⟩ := id h7
  have okl : ∀ cl, cl ∈ l → okO cl := txP_oO 12 0 0 j l e
  have t20 : ∀ cl, cl ∈ l → cl.2.1 ≤ 20 := fun cl hm => by
    obtain ⟨c, hc⟩ := List.mem_iff_getElem?.mp hm
    exact (tx.2.2.1 c cl hc).2.2.1
  have l12 : l.length ≤ 12 := tx.1
  obtain ⟨V', u', dn', fd', good, bb, u6, hv, e29, vf, hdn, cc, cr⟩ := cls l12 okl t20 l.length 0 I u 0 (-1) (by omega) ⟨L, hst0, trivial⟩ eu hu (by omega) (Or.inl rfl)
  have cnA : CNv A I u := ⟨fun c c1 c2 => AI c (by omega) (by omega) (by omega), by rw [AI 29 (by omega) (by omega) (by omega)]; exact eu, eu, fun j _ => by rw [AI 30 (by omega) (by omega) (by omega), AI 31 (by omega) (by omega) (by omega), AI 32 (by omega) (by omega) (by omega), AI 33 (by omega) (by omega) (by omega), AI 34 (by omega) (by omega) (by omega)]; exact ⟨rfl, rfl, rfl, rfl, rfl⟩⟩
  have dcA : DC l s M mk A := DC_cg ⟨s4, e1, cd, tx⟩ (fun c c1 c2 => A0 c (by omega))
  refine ⟨l.length + 1, cc N T r1 s M mk A _ _ cnA (by rw [eA, uu_n (by decide)]; exact uu_e) (by rw [eA, uu_e]) dcA (fun g y J cnJ j0 j2 fJ => ?_) (fun g J fJ => ?_)⟩
  · refine am_ifn (by decide) ?_
    unfold w_16
    show w_291 (am_u (am_u J 0 12 0) 0 10 0) L _
    obtain ⟨X, eX⟩ : ∃ X, X = am_u (am_u J 0 12 0) 0 10 0 := ⟨_, rfl⟩
    rw [← eX]
    have xo : ∀ c, c ≠ 0 → X c = J c := fun c hc => by rw [eX, uu_h hc, uu_h hc]
    have JA : ∀ c, (c = 0 ∨ 13 ≤ c) → ¬ (24 ≤ c ∧ c ≤ 26) → ¬ (29 ≤ c ∧ c ≤ 35) → c ≠ 54 → J c = A c := fun c c1 c2 c3 c4 => fJ.1 c (by omega) c2 c3 c4
    have JI : ∀ c, (c = 0 ∨ 13 ≤ c) → c ≠ 14 → ¬ (16 ≤ c ∧ c ≤ 22) → ¬ (24 ≤ c ∧ c ≤ 26) → ¬ (29 ≤ c ∧ c ≤ 54) → J c = I c := fun c c1 c2 c3 c4 c5 => by rw [JA c c1 c4 (by omega) (by omega)]; exact AI c (by omega) c2 c3
    have x14 : X 14 = G 14 := by rw [xo 14 (by decide), JA 14 (by omega) (by omega) (by omega) (by decide), A0 14 (by omega)]
    have x35 : X 35 1 = -1 := by rw [xo 35 (by decide), fJ.2 1 (by decide) (by decide)]; exact A35
    refine oref (K := fun q2 I2 L2 => J 35 0 = q2 ∧ Inv DR N T r1 I2 L2) hBr f5 hl e (by rw [xo 66 (by decide)]; exact JI 66 (by omega) (by omega) (by omega) (by omega) (by omega)) (by rw [xo 68 (by decide)]; exact JI 68 (by omega) (by omega) (by omega) (by omega) (by omega)) (by rw [xo 71 (by decide)]; exact JI 71 (by omega) (by omega) (by omega) (by omega) (by omega)) (by rw [xo 72 (by decide)]; exact JI 72 (by omega) (by omega) (by omega) (by omega) (by omega)) (by rw [xo 75 (by decide)]; exact JI 75 (by omega) (by omega) (by omega) (by omega) (by omega)) cr eu2 hu (by omega) (fun _ Z H rz zx z67 z661 z66 z13 z20 z18 z56 hL => ⟨j0, ?_⟩) (fun ng => absurd g ng)
    have zX : ∀ c, c < 66 → Z c = X c := fun c hc => zx c (by unfold rzz; omega)
    refine inv_oG h0 hv vf (CNv_cg cnJ (fun c hc => ?_)) rz u6 (fun c j hc => cr1.1 c j (fun q => hc q.1)) (fun c hc => ?_) ?_ ?_ ?_ ?_ ?_ z661 z66 z13 z20 ?_ ?_ ?_ hL
    · rw [zX c (by omega), xo c (by omega)]
    · unfold rdz at hc
      rw [zx c (by unfold rzz; omega), xo c (by omega)]
      exact JI c (by omega) (by omega) (by omega) (by omega) (by omega)
    · rw [zX 0 (by decide), eX, uu_n (by decide), uu_n (by decide), JI 0 (by omega) (by omega) (by omega) (by omega) (by omega)]
    · rw [zX 0 (by decide), eX, uu_e]
    · rw [zX 0 (by decide), eX, uu_n (by decide), uu_e]
    · rw [zX 65 (by decide), xo 65 (by decide)]; exact JI 65 (by omega) (by omega) (by omega) (by omega) (by omega)
    · rw [z67, xo 67 (by decide)]; exact JI 67 (by omega) (by omega) (by omega) (by omega) (by omega)
    · rw [zX 14 (by decide), x14]; exact g1
    · rw [zX 14 (by decide), x14, z18]; exact g2
    · rw [zX 35 (by decide), z56]; exact x35
  · have r46 : ∀ j, j < 6 → r1 46 j = r 11 j := fun j hj => cr1.2 j hj
    refine q80 (a := 1) (x := 36) (fun r' _ => PSN_1 T r') (fun r' _ => PSN_36 T r') (Or.inl (by decide)) (fun j => fr11 j) (fun j t hj ht => ?_) (fun r2 F2 cr2 cp2 => ?_)
    · have ht : r1 46 j = some t := ht
      rw [r46 j hj] at ht
      obtain ⟨u1, u2⟩ := hdd.2.1 j t hj ht
      rw [am_ts_hi u1.1]
      exact u2
    refine q81 (PSU_29 T r2) (PSU_48 T r2) (Or.inl (by decide)) (fun J2 k1 k10 kc => ?_)
    refine am_ifp rfl (rf3 ?_)
    obtain ⟨Y, eY⟩ : ∃ Y, Y = am_u J2 35 1 (nI bb) := ⟨_, rfl⟩
    rw [← eY]
    show w_291 (am_u (am_u Y 0 12 (-3)) 65 2 (Y 65 2 + 1)) L _
    obtain ⟨X, eX⟩ : ∃ X, X = am_u (am_u Y 0 12 (-3)) 65 2 (Y 65 2 + 1) := ⟨_, rfl⟩
    rw [← eX]
    have xo : ∀ c, c ≠ 0 → c ≠ 35 → c ≠ 65 → X c = J2 c := fun c c1 c2 c3 => by rw [eX, uu_h c3, uu_h c1, eY, uu_h c2]
    have j2F : ∀ c, (c < 29 ∨ 35 ≤ c) → J2 c = F2 c := fun c hc => k1 c (by omega)
    have f2J : ∀ c, (c < 1 ∨ 13 ≤ c) → F2 c = J c := fun c hc => cp2.1 c (by omega)
    have JA : ∀ c, (c = 0 ∨ 13 ≤ c) → ¬ (24 ≤ c ∧ c ≤ 26) → ¬ (29 ≤ c ∧ c ≤ 35) → c ≠ 54 → J c = A c := fun c c1 c2 c3 c4 => fJ.1 c (by omega) c2 c3 c4
    have JI : ∀ c, (c = 0 ∨ 13 ≤ c) → c ≠ 14 → ¬ (16 ≤ c ∧ c ≤ 22) → ¬ (24 ≤ c ∧ c ≤ 26) → ¬ (29 ≤ c ∧ c ≤ 54) → J2 c = I c := fun c c1 c2 c3 c4 c5 => by rw [j2F c (by omega), f2J c (by omega), JA c c1 c4 (by omega) (by omega)]; exact AI c (by omega) c2 c3
    have y14 : J2 14 = G 14 := by rw [j2F 14 (by omega), f2J 14 (by omega), JA 14 (by omega) (by omega) (by omega) (by decide), A0 14 (by omega)]
    have x14 : X 14 = G 14 := by rw [xo 14 (by decide) (by decide) (by decide)]; exact y14
    have x35 : X 35 1 = nI bb := by rw [eX, uu_c (by decide), uu_c (by decide), eY, uu_e]
    have x0 : ∀ i, i ≠ 12 → X 0 i = I 0 i := fun i hi => by rw [eX, uu_c (by decide), uu_n hi, eY, uu_c (by decide), JI 0 (by omega) (by omega) (by omega) (by omega) (by omega)]
    have x012 : X 0 12 = -3 := by rw [eX, uu_c (by decide), uu_e]
    have y65 : Y 65 = I 65 := by rw [eY, uu_h (by decide)]; exact JI 65 (by omega) (by omega) (by omega) (by omega) (by omega)
    have x65 : ∀ i, i ≠ 2 → X 65 i = I 65 i := fun i hi => by rw [eX, uu_n hi, uu_c (by decide), y65]
    have x652 : X 65 2 = I 65 2 + 1 := by rw [eX, uu_e, y65]
    have x67 : X 67 = I 67 := by rw [xo 67 (by decide) (by decide) (by decide)]; exact JI 67 (by omega) (by omega) (by omega) (by omega) (by omega)
    have jS : ∀ c, 36 ≤ c → c < 48 → J c = F1 c := fun c c1 c2 => by rw [JA c (by omega) (by omega) (by omega) (by omega), aJ c (by omega), jF c (by omega)]
    have jU : ∀ c, 48 ≤ c → c < 54 → J c = J1 c := fun c c1 c2 => by rw [JA c (by omega) (by omega) (by omega) (by omega), aJ c (by omega)]
    have gl : ∀ c, (1 ≤ c ∧ c ≤ 12) ∨ (29 ≤ c ∧ c ≤ 34) → G c = I c := fun c hc => gi c (by omega) (by omega) (by omega)
    have f1I : ∀ c, 29 ≤ c → c ≤ 34 → F1 c = I c := fun c c1 c2 => by rw [fG c (by omega)]; exact gl c (by omega)
    have r2e : ∀ c j, c ≠ 46 → r2 c j = r c j := fun c j hc => by
      by_cases w : c = 1 + 10 ∧ j < 6
      · rw [w.1, cr2.2 j w.2]
        exact r46 j w.2
      · rw [cr2.1 c j w]
        exact cr1.1 c j (fun q => hc q.1)
    refine oref (K := fun q2 I2 L2 => -3 = q2 ∧ Inv DR N T r2 I2 L2) hBr f5 hl e (by rw [xo 66 (by decide) (by decide) (by decide)]; exact JI 66 (by omega) (by omega) (by omega) (by omega) (by omega)) (by rw [xo 68 (by decide) (by decide) (by decide)]; exact JI 68 (by omega) (by omega) (by omega) (by omega) (by omega)) (by rw [xo 71 (by decide) (by decide) (by decide)]; exact JI 71 (by omega) (by omega) (by omega) (by omega) (by omega)) (by rw [xo 72 (by decide) (by decide) (by decide)]; exact JI 72 (by omega) (by omega) (by omega) (by omega) (by omega)) (by rw [xo 75 (by decide) (by decide) (by decide)]; exact JI 75 (by omega) (by omega) (by omega) (by omega) (by omega)) cr eu2 hu (by omega) (fun gg => absurd gg g) (fun _ Z H z68 z71 z72 z8 zx z67 z673 z661 z66 z13 z20 z18 z56 hL => ⟨rfl, ?_⟩)
    have zX : ∀ c, c < 66 → Z c = X c := fun c hc => zx c (by unfold rzz; omega)
    have zF : ∀ c, 1 ≤ c → c ≤ 12 → Z c = F2 c := fun c c1 c2 => by rw [zX c (by omega), xo c (by omega) (by omega) (by omega), j2F c (by omega)]
    have zU : ∀ c, 29 ≤ c → c ≤ 34 → Z c = J2 c := fun c c1 c2 => by rw [zX c (by omega), xo c (by omega) (by omega) (by omega)]
    refine inv_oB h0 ⟨fun k hk => ⟨?_, ?_⟩, fun i k i1 i2 hk => ?_, fun k hk => ?_, fun i hi => ?_⟩ z68 ?_ (fun c k c1 c2 hk => ?_) z8 z71 z72 r2e (fun c hc => ?_) (fun i hi => ?_) ?_ (fun i hi => ?_) ?_ (fun i hi => ?_) ?_ z661 z66 z13 z20 ?_ ?_ ?_ hL
    · rw [zF (1 + 1) (by omega) (by omega), (cp2.2.1 k hk).1, jS (36 + 1) (by omega) (by omega), (cp1.2.1 k hk).1, gl (1 + 1) (by omega)]
    · rw [zF (1 + 2) (by omega) (by omega), (cp2.2.1 k hk).2, jS (36 + 2) (by omega) (by omega), (cp1.2.1 k hk).2, gl (1 + 2) (by omega)]
    · rw [zF (1 + i) (by omega) (by omega), cp2.2.2.1 i k i1 i2 hk, jS (36 + i) (by omega) (by omega), cp1.2.2.1 i k i1 i2 hk, gl (1 + i) (by omega)]
    · rw [zF (1 + 11) (by omega) (by omega), cp2.2.2.2.1 k hk, jS (36 + 11) (by omega) (by omega), cp1.2.2.2.1 k hk, gl (1 + 11) (by omega)]
    · rw [zF 1 (by omega) (by omega), cp2.2.2.2.2 i hi, jS 36 (by omega) (by omega), cp1.2.2.2.2 i hi, gl 1 (by omega)]
    · rw [zU 29 (by omega) (by omega), k10, f2J 48 (by omega), jU 48 (by omega) (by omega), j10, f1I 29 (by omega) (by omega)]
    · obtain ⟨i, ei⟩ : ∃ i, c = 29 + i := ⟨c - 29, by omega⟩
      rw [ei, zU (29 + i) (by omega) (by omega), kc i k (by omega) (by omega) hk, f2J (48 + i) (by omega), jU (48 + i) (by omega) (by omega), jc i k (by omega) (by omega) hk, f1I (29 + i) (by omega) (by omega)]
    · unfold rdz at hc
      rw [zx c (by unfold rzz; omega), xo c (by omega) (by omega) (by omega)]
      exact JI c (by omega) (by omega) (by omega) (by omega) (by omega)
    · rw [zX 0 (by decide)]; exact x0 i hi
    · rw [zX 0 (by decide)]; exact x012
    · rw [zX 65 (by decide)]; exact x65 i hi
    · rw [zX 65 (by decide)]; exact x652
    · rw [z67 i hi, x67]
    · rw [z673, x67]
    · rw [zX 14 (by decide), x14]; exact g1
    · rw [zX 14 (by decide), x14, z18]; exact g2
    · rw [zX 35 (by decide), z56]; exact x35
