/-! law: the call -/
theorem o_12 {N : Nat} {T : Nat → Nat × Nat} {r : Nat → Nat → Option Nat} {I : am_I} {L : am_J} (h : Inv DR N T r I L) : op_12 (Inv DR) N T r I L := by
  have h0 := h
  obtain ⟨hst, hdd⟩ := h
  have hst0 := hst
  obtain ⟨h1, h2, h3, h4, h5, h6, h7, h8, h9, f1, f2, f3, f4, f5⟩ := hst
  obtain ⟨k, k6, l15, l3, _, _⟩ := h4
  obtain ⟨b, z, hB, hBr⟩ := tp_by h6
  have hN : 99 ≤ N := hdd.1
  unfold op_12 w_38
  rw [l15]
  by_cases ck : k = 6
  · refine am_ifn (show ¬ nI k < 6 by rw [ck]; decide) (rf5 ?_)
    show w_204 _ _ _
    unfold w_204
    refine am_ifp ?_ (tl5 ⟨rfl, ?_⟩)
    · rw [uu_c (by decide), uu_c (by decide), uu_c (by decide), l3, ck]; rfl
    · refine inv_rd (j := 3) (j' := 5) (v := -5) h0 (Or.inl ⟨rfl, rfl⟩) (fun c hc => ?_) (fun i hi => ?_) ?_ (fun i hi => ?_) ?_ (fun i hi => ?_) ?_ ?_ (fun i hi => ?_) ?_ ?_ ?_ ?_ f5
      · unfold rdo at hc
        rw [uu_h (by omega), uu_h (by omega), uu_h (by omega), uu_h (by omega), uu_h (by omega), uu_h (by omega), uu_h (by omega)]
      · rw [uu_c (by decide), uu_c (by decide), uu_c (by decide), uu_c (by decide), uu_c (by decide), uu_n hi, uu_c (by decide)]
      · rw [uu_c (by decide), uu_c (by decide), uu_c (by decide), uu_c (by decide), uu_c (by decide), uu_e]
      · rw [uu_c (by decide), uu_c (by decide), uu_c (by decide), uu_c (by decide), uu_n hi, uu_c (by decide), uu_c (by decide)]
      · rw [uu_c (by decide), uu_c (by decide), uu_c (by decide), uu_c (by decide), uu_e, uu_c (by decide)]
      · rw [uu_n hi, uu_c (by decide), uu_c (by decide), uu_c (by decide), uu_c (by decide), uu_c (by decide), uu_c (by decide)]
      · rw [uu_e, uu_c (by decide), uu_c (by decide), uu_c (by decide), uu_c (by decide), uu_c (by decide)]
      · rw [uu_c (by decide), uu_e]
      · rw [uu_c (by decide), uu_n (by omega), uu_n (by omega), uu_n (by omega), uu_c (by decide), uu_c (by decide), uu_c (by decide)]
      · rw [uu_c (by decide), uu_n (by decide), uu_e]
      · rw [uu_c (by decide), uu_n (by decide), uu_n (by decide), uu_n (by decide), uu_c (by decide), uu_c (by decide), uu_c (by decide)]; exact f3
      · rw [uu_c (by decide), uu_c (by decide), uu_c (by decide), uu_c (by decide), uu_c (by decide), uu_c (by decide), uu_e]
      · rw [uu_c (by decide), uu_c (by decide), uu_c (by decide), uu_c (by decide), uu_c (by decide), uu_c (by decide), uu_n (by decide), uu_c (by decide), uu_n (by decide), uu_n (by decide), uu_n (by decide), uu_c (by decide), uu_c (by decide), uu_c (by decide)]; exact f1
  · refine am_ifp (show nI k < 6 from (nb_lt (b := 6) (by omega) (by decide)).mpr (by omega)) ?_
    refine q39 (law := true) (CL := clL) rfl hB (fun n C B => c55) (Or.inl ⟨rfl, rfl⟩) (fun hl j e G fk g1 g2 jl => ?_) (fun hl j l e mk s M G fk g1 g2 s4 e1 cd tx => ?_)
    · have g66 : G 66 = I 66 := fk.1 66 (by decide) (by decide) (by decide) (by decide) (by decide) (by decide) (by decide) (by decide)
      have g68 : G 68 = I 68 := fk.1 68 (by decide) (by decide) (by decide) (by decide) (by decide) (by decide) (by decide) (by decide)
      have g75 : G 75 = I 75 := fk.1 75 (by decide) (by decide) (by decide) (by decide) (by decide) (by decide) (by decide) (by decide)
      refine am_ifp rfl (rf6 ?_)
      show w_204 _ _ _
      refine q204 (b := b) (z := z) (k := k) (by omega) (by rw [uu_c (by decide), uu_c (by decide), g68]; exact l3) ⟨hBr.1, by rw [uu_c (by decide), uu_c (by decide), g66]; exact hBr.2.1, fun k hk => by rw [uu_c (by decide), uu_c (by decide), g75]; exact hBr.2.2 k hk⟩ f5 hl (fun j' e' G2 H2 fe a13 a20 a18 => tl6 ⟨rfl, ?_⟩) (fun j' l' e' => by rw [e] at e'; injection e' with _ e'; cases e')
      have ej : j' = j := by
        rw [e] at e'
        injection e' with e' _
        exact e'.symm
      have lo : ∀ c, c ≠ 0 → c ≠ 65 → c ≠ 66 → c ≠ 76 → c ≠ 77 → c ≠ 78 → c ≠ 79 → c ≠ 80 → c ≠ 97 → G2 c = G c := fun c c1 c2 c3 c4 c5 c6 c7 c8 c9 => by rw [fe.1 c c3 c4 c5 c6 c7 c8 c9, uu_h c2, uu_h c1]
      have g6 : ∀ k, (k = 8 ∨ k = 11 ∨ k = 56 ∨ k = 60 ∨ k = 61) → G2 66 k = I 66 k := fun k hk => by rw [fe.2.1 k (by unfold s66; omega) (by omega) (by omega) (by omega) (by omega) (by omega), uu_c (by decide), uu_c (by decide), g66]
      have g0 : G 0 = I 0 := fk.1 0 (by decide) (by decide) (by decide) (by decide) (by decide) (by decide) (by decide) (by decide)
      have g65 : G 65 = I 65 := fk.1 65 (by decide) (by decide) (by decide) (by decide) (by decide) (by decide) (by decide) (by decide)
      have g67 : G2 67 = I 67 := (lo 67 (by decide) (by decide) (by decide) (by decide) (by decide) (by decide) (by decide) (by decide) (by decide)).trans (fk.1 67 (by decide) (by decide) (by decide) (by decide) (by decide) (by decide) (by decide) (by decide))
      have k0 : ∀ i, G2 0 i = am_u (am_u G 0 12 (-6)) 65 4 (G 65 4 + 1) 0 i := fun i => by rw [fe.1 0 (by decide) (by decide) (by decide) (by decide) (by decide) (by decide) (by decide)]
      have k65 : ∀ i, G2 65 i = am_u (am_u G 0 12 (-6)) 65 4 (G 65 4 + 1) 65 i := fun i => by rw [fe.1 65 (by decide) (by decide) (by decide) (by decide) (by decide) (by decide) (by decide)]
      have k14 : G2 14 = G 14 := lo 14 (by decide) (by decide) (by decide) (by decide) (by decide) (by decide) (by decide) (by decide) (by decide)
      refine inv_rd (j := 4) (j' := 6) (v := -6) h0 (Or.inr ⟨rfl, rfl⟩) (fun c hc => ?_) (fun i hi => ?_) ?_ (fun i hi => ?_) ?_ (fun i hi => ?_) ?_ ?_ (fun i hi => ?_) ?_ ?_ ?_ ?_ ⟨(fe.2.2.1 81 (by decide)).trans f5.1, (fe.2.2.1 82 (by decide)).trans f5.2.1, (fe.2.2.1 83 (by decide)).trans f5.2.2⟩
      · unfold rdo at hc
        rw [uu_h (by omega), uu_h (by omega), lo c (by omega) (by omega) (by omega) (by omega) (by omega) (by omega) (by omega) (by omega) (by omega)]
        exact fk.1 c (by omega) (by omega) (by omega) (by omega) (by omega) (by omega) (by omega) (by omega)
      · rw [uu_c (by decide), uu_c (by decide), k0, uu_c (by decide), uu_n hi, g0]
      · rw [uu_c (by decide), uu_c (by decide), k0, uu_c (by decide), uu_e]
      · rw [uu_c (by decide), uu_c (by decide), k65, uu_n hi, uu_c (by decide), g65]
      · rw [uu_c (by decide), uu_c (by decide), k65, uu_e, g65]
      · rw [uu_n hi, uu_c (by decide), g67]
      · rw [uu_e, g67]
      · rw [uu_c (by decide), uu_e]
      · rw [uu_c (by decide), uu_n (by omega)]; exact g6 i hi
      · rw [uu_c (by decide), uu_n (by decide)]; exact a13
      · rw [uu_c (by decide), uu_n (by decide)]; exact a20
      · rw [uu_c (by decide), uu_c (by decide), k14]; exact g1
      · rw [uu_c (by decide), uu_c (by decide), k14, uu_c (by decide), uu_n (by decide), a18, ej]; exact g2
    · refine am_ifn (by decide) (q76 hN e1 tx.2.1 s4 tx.1 (fun T' r' J L' nt => ⟨(fun q => by cases q), fun t7 et => ?_⟩))
      have et := Option.some.inj et
      subst et
      have jg : ∀ c, c < 99 → J c = G c := fun c hc => (nt.1 c (by omega)).2.2.1
      have gi : ∀ c, c ≠ 14 → ¬ (16 ≤ c ∧ c ≤ 22) → G c = I c := fun c c1 c2 => fk.1 c (by omega) (by omega) (by omega) (by omega) (by omega) (by omega) (by omega) (by omega)
      have ji : ∀ c, c < 99 → c ≠ 14 → ¬ (16 ≤ c ∧ c ≤ 22) → J c = I c := fun c c0 c1 c2 => (jg c c0).trans (gi c c1 c2)
      have j15 : J 1 15 = nI k := by rw [ji 1 (by decide) (by decide) (by omega)]; exact l15
      unfold w_77
      rw [j15]
      refine am_ifp (show nI k < 6 from (nb_lt (b := 6) (by omega) (by decide)).mpr (by omega)) ?_
      rw [nI_clamp (by omega : k < 2 ^ 31)]
      refine ⟨fr11 k, Or.inr ⟨rfl, by rw [am_ts_hi hN, nt.2.1]⟩, fun q => q.elim (fun z => nI_pos (by omega) z) (fun z => by have z : 6 ≤ k := z; omega), ?_⟩
      unfold w_16
      show w_204 _ _ _
      obtain ⟨J0, eJ0⟩ : ∃ J0, J0 = am_u (am_u (am_u J 1 15 (nI k + 1)) 0 12 0) 0 10 0 := ⟨_, rfl⟩
      rw [← eJ0]
      have o0 : ∀ c, c ≠ 0 → c ≠ 1 → J0 c = J c := fun c c1 c2 => by rw [eJ0, uu_h c1, uu_h c1, uu_h c2]
      have lL : ∀ c, c < 99 → L' c = L c := fun c hc => (nt.1 c (by omega)).2.2.2
      refine q204 (b := b) (z := z) (k := k) (by omega) (by rw [o0 68 (by decide) (by decide), ji 68 (by decide) (by decide) (by omega)]; exact l3) ⟨hBr.1, by rw [o0 66 (by decide) (by decide), ji 66 (by decide) (by decide) (by omega)]; exact hBr.2.1, fun k hk => by rw [o0 75 (by decide) (by decide), ji 75 (by decide) (by decide) (by omega)]; exact hBr.2.2 k hk⟩ ⟨(lL 81 (by decide)).trans f5.1, (lL 82 (by decide)).trans f5.2.1, (lL 83 (by decide)).trans f5.2.2⟩ hl (fun j' e' => by rw [e] at e'; injection e' with _ e'; cases e') (fun j' l' e' mk2 s2 M2 G3 H3 fe a13 a20 a18 s24 hl2 cd2 tx2 F w => ⟨rfl, ?_⟩)
      have el : l' = l := by
        rw [e] at e'
        injection e' with _ e'
        injection e' with e'
        exact e'.symm
      rw [el] at w tx2
      have ok := txP_ok 12 0 0 j l e
      obtain ⟨w1, w2, w3, w4, w5, w6, w7, w8⟩ := id w
      have fj : ∀ c, c ≠ 66 → c ≠ 68 → ¬ (76 ≤ c ∧ c ≤ 80) → c ≠ 97 → F c = J0 c := fun c c1 c2 c3 c4 => (w1 c c1 c2).trans (fe.1 c c1 (by omega) (by omega) (by omega) (by omega) (by omega) c4)
      have f68 : ∀ i, i ≠ 3 → (i < 111 + 900 * k ∨ 1010 + 900 * k ≤ i) → F 68 i = I 68 i := fun i i1 i2 => by rw [w4 i i1 i2, fe.1 68 (by decide) (by decide) (by decide) (by decide) (by decide) (by decide) (by decide), o0 68 (by decide) (by decide), ji 68 (by decide) (by decide) (by omega)]
      have f66 : ∀ i, (i = 8 ∨ i = 11 ∨ i = 56 ∨ i = 60 ∨ i = 61) → F 66 i = I 66 i := fun i hi => by rw [w2 i (by omega), fe.2.1 i (by unfold s66; omega) (by omega) (by omega) (by omega) (by omega) (by omega), o0 66 (by decide) (by decide), ji 66 (by decide) (by decide) (by omega)]
      have fI : ∀ c, c < 99 → rdo c → c ≠ 1 → c ≠ 68 → F c = I c := fun c c0 c1 c2 c3 => by
        unfold rdo at c1
        rw [fj c (by omega) c3 (by omega) (by omega), o0 c (by omega) c2, ji c c0 (by omega) (by omega)]
      have F0 : ∀ i, F 0 i = J0 0 i := fun i => by rw [fj 0 (by decide) (by decide) (by omega) (by decide)]
      have F1 : ∀ i, F 1 i = J0 1 i := fun i => by rw [fj 1 (by decide) (by decide) (by omega) (by decide)]
      have F14 : F 14 = G 14 := by rw [fj 14 (by decide) (by decide) (by omega) (by decide), o0 14 (by decide) (by decide), jg 14 (by decide)]
      have j0 : ∀ i, J 0 i = I 0 i := fun i => by rw [ji 0 (by decide) (by decide) (by omega)]
      have j1 : ∀ i, J 1 i = I 1 i := fun i => by rw [ji 1 (by decide) (by decide) (by omega)]
      have m15 : F 1 15 = nI (k + 1) := by rw [F1, eJ0, uu_c (by decide), uu_c (by decide), uu_e, nI_succ]
      have m010 : F 0 10 = 0 := by rw [F0, eJ0, uu_e]
      have hL3 : LWr H3 := ⟨(fe.2.2.1 81 (by decide)).trans ((lL 81 (by decide)).trans f5.1), (fe.2.2.1 82 (by decide)).trans ((lL 82 (by decide)).trans f5.2.1), (fe.2.2.1 83 (by decide)).trans ((lL 83 (by decide)).trans f5.2.2)⟩
      have hiN : ∀ c, 99 ≤ c → F c = J c := fun c hc => by rw [fj c (by omega) (by omega) (by omega) (by omega), o0 c (by omega) (by omega)]
      refine ⟨StR_law (k := k) hst0 (by omega) l15 (fun c c1 c2 c3 c4 => fI c c4 c1 c2 c3) (fun i i1 i2 => ?_) ?_ (fun i hi => ?_) m15 f68 w5 ?_ ?_ w3 f66 ((w2 13 (by decide)).trans a13) ((w2 20 (by decide)).trans a20) ?_ ?_ hL3, DD_law (k := k) (X := lwx l) hdd (by omega) l15 (fun c c1 c2 => ⟨(nt.1 c c2).1, fun j => ?_, ?_⟩) (fun j hj => ?_) uu_e (fun j => ?_) ?_ ?_ (okX_of tx.1 ok) ?_ (lawr_of w s24 cd2 tx2 ok) m15 f68 ?_ ?_ m010⟩
      · rw [F0, eJ0, uu_n i1, uu_n i2, uu_c (by decide)]; exact j0 i
      · rw [F0, eJ0, uu_n (by decide), uu_e]
      · rw [F1, eJ0, uu_c (by decide), uu_c (by decide), uu_n hi]; exact j1 i
      · rw [fj 65 (by decide) (by decide) (by omega) (by decide), o0 65 (by decide) (by decide)]; exact ji 65 (by decide) (by decide) (by omega)
      · rw [fj 67 (by decide) (by decide) (by omega) (by decide), o0 67 (by decide) (by decide)]; exact ji 67 (by decide) (by decide) (by omega)
      · rw [F14]; exact g1
      · rw [F14, w2 18 (by decide), a18]; exact g2
      · rw [uu_c (by omega)]; exact (nt.1 c c2).2.1 j
      · rw [hiN c c1, (nt.1 c c2).2.2.1]; exact gi c (by omega) (by omega)
      · rw [uu_n hj]; exact (nt.1 11 (by omega)).2.1 j
      · rw [uu_c (by decide)]; exact (nt.1 13 (by omega)).2.1 j
      · rw [uu_c (by decide)]; exact (nt.1 0 (by omega)).2.1 9
      · rw [nt.2.1]
      · exact LAWd_cg (lawc_of hN nt s4 cd tx ok) (fun c c1 c2 => ⟨rfl, fun j => uu_c (by omega), hiN c (by omega)⟩)
      · exact fI 69 (by decide) (by unfold rdo; omega) (by decide) (by decide)
      · exact fI 70 (by decide) (by unfold rdo; omega) (by decide) (by decide)
