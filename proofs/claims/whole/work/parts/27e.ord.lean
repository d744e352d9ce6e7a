/-! orders: the reference reads a clause -/
theorem r188b {x : TX} {B : am_I} {LB : am_J} {j c : Nat} {G : am_I} {H : am_J} {K : am_I → am_J → Prop} {v2 : Int32} (ev : v2 = nI (10 * c)) (hc : c < 12) (h : RBs x B LB j G H) (hK : ∀ G', RBs x B LB j G' H → K G' H) : wb_292_188 v2 G H K := by
  have x9 : v2 + 9 = nI (10 * c + 9) := by rw [ev, show (9 : Int32) = nI 9 from rfl, nb_add]
  unfold wb_292_188
  refine ⟨nb_gdx x9 (by omega) (by decide), ?_⟩
  rw [h.2.1]
  refine am_ifn (by decide) (r236b ev hc (RBs_w h (fun c c1 c2 c3 => ?_) (fun k hk => ?_)) hK)
  · rw [uu_h c3]
  · rw [uu_c (by decide)]
theorem r188 {x : TX} {B : am_I} {LB : am_J} {l : List CLD} {mk : Nat → Nat → Nat} {kd : Nat} {fs : List FN} {m : Nat → Nat} {i q s : Nat} {M : Nat → Nat × Nat} {G : am_I} {H : am_J} {K : am_I → am_J → Prop} {v2 : Int32} (ev : v2 = nI (10 * l.length)) (hw : xw x = false) (h : RQ x B LB l mk kd fs m i q s M G H) (hF : ∀ j, tmP (xC x) (kd, 1, fs, none) i q = (j, none) → ∀ G' H', RBs x B LB j G' H' → K G' H') (hS : ∀ j q' c, tmP (xC x) (kd, 1, fs, none) i q = (j, some (q', c)) → ∀ mk s' M' G' H', RS x RWq B LB (l ++ [c]) mk j q' s' M' G' H' → K G' H') : wb_292_188 v2 G H K := by
  have x9 : v2 + 9 = nI (10 * l.length + 9) := by rw [ev, show (9 : Int32) = nI 9 from rfl, nb_add]
  have h12 := h.2.2.2.1
  unfold wb_292_188
  refine ⟨nb_gdx x9 (by omega) (by decide), ?_⟩
  rw [nb_cl x9 (by omega), h.2.1.2.2.2.1]
  refine am_ifp rfl ?_
  have hq := RQ_w (p := 10 * l.length + 9) (v := 1) h (by omega)
  have q9 : am_u G 97 (10 * l.length + 9) 1 97 (10 * l.length + 9) = nI 1 := uu_e
  obtain ⟨G1, eG1⟩ : ∃ G1, G1 = am_u G 97 (10 * l.length + 9) 1 := ⟨_, rfl⟩
  rw [← eG1] at hq q9 ⊢
  have hx := hq.1
  have hp := hq.2.1
  have hf := hq.2.2.1
  rw [show f_211 21279923 G1 H = b1 (decide (xC x i = 1000000 + 9)) from f211 (x := rb x G1 H) (j := 9) hp.1 (by decide) rfl]
  refine ifd (fun c => ?_) (fun c => ?_)
  · have e : tmP (xC x) (kd, 1, fs, none) i q = ifP (xC x) false (kd, 1, fs, none) i q := by
      unfold tmP
      rw [if_neg c]
    exact r236 ev hw hq q9 (by decide) (by decide) (fun j e' => hF j (e.trans e')) (fun j q' c e' => hS j q' c (e.trans e'))
  · have il := (RP_c hx hp).2.2.1 (by show xC x i ≠ 3000000; omega)
    refine qnxP hx hp il (fun G2 H2 g2 => ?_)
    have h2 := RQ_rb hq g2
    refine q223P (lo := 1) (hi := 20) h2.2.2.1 h2.1 h2.2.1 (by decide) (by decide) rfl rfl (fun d v G3 g3 => ?_) (fun d1 d2 G3 H3 g3 => ?_)
    · refine ⟨fun q => q.elim (fun z => by rw [x9] at z; exact nI_pos (by omega) z) (fun z => by omega), ?_⟩
      exact r236b ev h12 (RBs_w g3 (fun c c1 c2 c3 => by rw [uu_h c3]) (fun k hk => by rw [uu_c (by decide)])) (fun G4 g4 => hF (i + 1) (by unfold tmP; rw [if_pos c, if_neg d]) G4 H2 g4)
    · refine ⟨fun q => q.elim (fun z => by rw [x9] at z; exact nI_pos (by omega) z) (fun z => by omega), ?_⟩
      have e : tmP (xC x) (kd, 1, fs, none) i q = ifP (xC x) false (kd, xC x (i + 1), fs, none) (i + 2) q := by
        unfold tmP
        rw [if_pos c, if_pos ⟨d1, d2⟩]
      have h3 := RQ_w (p := 10 * l.length + 9) (v := nI (xC x (i + 1))) (RQ_rb h2 g3) (by omega)
      exact r236 ev hw h3 uu_e d1 d2 (fun j e' => hF j (e.trans e')) (fun j q' c e' => hS j q' c (e.trans e'))
theorem r292 {x : TX} {B : am_I} {LB : am_J} (hw : xw x = false) : RCL x RWq B LB (clO (xC x)) w_292 := by
  intro l mk i q s M G H K h hF hS
  obtain ⟨hx, hp, hf, hl, h21, ht⟩ := h
  have bad : ∀ r, (l.length < 12 → clO (xC x) i q = (i, none)) → wb_292_78 r 0 G H K := by
    intro r hc
    unfold wb_292_78
    refine q212fP hf hp (fun G1 g1 => ?_)
    rw [g1.2.1]
    exact am_ifn (by decide) (hF i hc (fun _ => rfl) G1 H g1)
  have good : ∀ kd, kd ≤ 3 → xC x i = 1000004 + kd → wb_292_57 (nI kd) G H K := by
    intro kd hk ek
    unfold wb_292_57
    refine am_ifn (nb_m1 (by omega)) ?_
    rw [h21]
    by_cases c12 : l.length = 12
    · exact am_ifp (show (12 : Int32) ≤ nI l.length from nI_le (a := 12) (by omega) (by omega)) (bad _ (fun z => by omega))
    · refine am_ifn (show ¬ (12 : Int32) ≤ nI l.length from nI_ge (b := 12) (by omega) (by decide)) ?_
      have il := (RP_c hx hp).2.2.1 (by show xC x i ≠ 3000000; omega)
      unfold wb_292_78
      refine q212tP hx hp il (fun G1 H1 g1 => ?_)
      have f1 := g1.2.1
      have e21 : G1 66 21 = nI l.length := (f1.2.1 21 (by unfold s66; omega)).trans h21
      have x97 : G1 97 = G 97 := f1.1 97 (by decide) (by decide) (by decide) (by decide) (by decide)
      have x10 : 10 * (G1 66 21) = nI (10 * l.length) := by rw [e21, show (10 : Int32) = nI 10 from rfl, nb_mul]
      rw [g1.2.2.2.1, x10]
      refine am_ifp rfl ⟨11, l109 (c := l.length) (by omega) (fun v G2 a1 a2 a3 => ?_) 10 0 _ rfl (fun _ _ => rfl) (fun _ _ => rfl) (fun k k1 k2 => by omega)⟩
      refine ⟨nb_gd (by omega) (by decide), ?_⟩
      rw [nI_clamp (by omega : 10 * l.length < 2 ^ 31)]
      obtain ⟨G3, eG3⟩ : ∃ G3, G3 = am_u G2 97 (10 * l.length) (nI kd) := ⟨_, rfl⟩
      rw [← eG3]
      have w1 : ∀ c, c ≠ 66 → c ≠ 76 → c ≠ 97 → G3 c = G1 c := fun c c1 c2 c3 => by rw [eG3, uu_h c3, a1 c c3, uu_h c1]
      have w2 : ∀ k, k ≠ 21 → G3 66 k = G1 66 k := fun k hk => by rw [eG3, uu_c (by decide), a1 66 (by decide), uu_n hk]
      obtain ⟨y1, y2⟩ := rb_ok hx g1
      have hz := rb_w (x := x) (G' := G3) y1 y2 w1 w2
      obtain ⟨z1, z2⟩ := hz
      have hf3 : frSx B G3 LB H1 := frSx_w (frSx_R hf f1) w1 w2
      have ro : RQ x B LB l mk kd [] (fun _ => s) (i + 1) q s M G3 H1 := by
        refine ⟨z1, z2, hf3, by omega, ?_, TXr_97 ht (fun _ _ => rfl) (Nat.le_refl _) (fun k' k1' k2' => by omega) (fun k' hk' => ?_), hk, ?_, fun j hj => ⟨fun z => absurd z (Nat.not_lt_zero _), fun _ => ⟨?_, ?_⟩⟩, ⟨Nat.zero_le _, fun i f h => absurd (gixl h) (Nat.not_lt_zero _), fun i _ _ => rfl, fun _ => rfl, fun f h => by cases h⟩, fun j _ _ => rfl, fun j _ => Nat.le_refl _⟩
        · rw [eG3, uu_c (by decide), a1 66 (by decide), uu_e, e21, nI_succ]
        · rw [eG3, uu_n (by omega), a2 k' hk', uu_c (by decide), x97]
        · rw [eG3, uu_e]
        · rw [eG3, uu_n (by omega), a3 _ (by omega) (by omega)]
        · rw [eG3, uu_n (by omega), a3 _ (by omega) (by omega)]
      have l12 : l.length < 12 := by omega
      have n12 : ∀ j, l.length = 12 → j = i := fun j z => by omega
      by_cases k0 : kd = 0
      · rw [k0] at ro ⊢
        have ep : clO (xC x) i q = bd (smD (xC x) false 8 (i + 1) q) (fun j y => if xC x j = 1000010 then bd (smD (xC x) false 8 (j + 1) y.1) (fun j2 y2 => tmP (xC x) (0, 1, [y.2, y2.2], none) j2 y2.1) else (j, none)) := by
          unfold clO
          rw [if_pos (by omega)]
        refine am_ifp rfl ?_
        unfold wb_292_146
        have x1 : nI (10 * l.length) + 1 = nI (10 * l.length + 1 + 2 * ([] : List FN).length) := (nI_succ _).symm
        have x3 : nI (10 * l.length) + 3 = nI (10 * l.length + 3) := by rw [show (3 : Int32) = nI 3 from rfl, nb_add]
        refine r293 x1 hw (by show 0 < 3; decide) ro (fun j e G4 H4 g4 => ?_) (fun j y e m4 s4 M4 G4 H4 h4 => ?_)
        · refine am_ifp rfl ?_
          unfold wb_292_170
          exact r294b x3 (by omega) g4 (fun G5 g5 => am_ifn (by decide) (r188b rfl l12 g5 (fun G6 g6 => hF j (fun _ => by rw [ep, e]; rfl) (n12 j) G6 H4 g6)))
        · refine am_ifp rfl ?_
          unfold wb_292_170
          refine r294 (l := l) (w := 10) (fs := [] ++ [y.2]) (x3.trans (congrArg nI (show 10 * l.length + 3 = 10 * l.length + 1 + 2 * ([] ++ [y.2]).length by show 10 * l.length + 3 = 10 * l.length + 1 + 2 * 1; omega))) hw (by show 1 < 3; decide) (by decide) rfl h4 (fun c G5 H5 g5 => ?_) (fun c j2 e2 G5 H5 g5 => ?_) (fun c j2 y2 e2 m5 s5 M5 G5 H5 h5 => ?_)
          · refine am_ifn (by decide) (r188b rfl l12 g5 (fun G6 g6 => hF j (fun _ => ?_) (n12 j) G6 H5 g6))
            rw [ep, e]
            show (if xC x j = 1000010 then bd (smD (xC x) false 8 (j + 1) y.1) (fun j2 y2 => tmP (xC x) (0, 1, [y.2, y2.2], none) j2 y2.1) else (j, none)) = _
            rw [if_neg c]
          · refine am_ifn (by decide) (r188b rfl l12 g5 (fun G6 g6 => hF j2 (fun _ => ?_) (n12 j2) G6 H5 g6))
            rw [ep, e]
            show (if xC x j = 1000010 then bd (smD (xC x) false 8 (j + 1) y.1) (fun j2 y2 => tmP (xC x) (0, 1, [y.2, y2.2], none) j2 y2.1) else (j, none)) = _
            rw [if_pos c, e2]
            rfl
          · have e3 : clO (xC x) i q = tmP (xC x) (0, 1, [y.2, y2.2], none) j2 y2.1 := by
              rw [ep, e]
              show (if xC x j = 1000010 then bd (smD (xC x) false 8 (j + 1) y.1) (fun j2 y2 => tmP (xC x) (0, 1, [y.2, y2.2], none) j2 y2.1) else (j, none)) = _
              rw [if_pos c, e2]
              rfl
            exact am_ifn (by decide) (r188 rfl hw h5 (fun j5 e5 G' H' g => hF j5 (fun _ => e3.trans e5) (n12 j5) G' H' g) (fun j5 q5 c5 e5 => hS l12 j5 q5 c5 (e3.trans e5)))
      · refine am_ifn (fun z => k0 ((nb_inj (a := kd) (b := 0) (by omega) (by decide)).mp z)) ?_
        by_cases k1 : kd = 1
        · rw [k1] at ro ⊢
          have ep : clO (xC x) i q = bd (smD (xC x) false 8 (i + 1) q) (fun j y => if xC x j = 1000011 then bd (smD (xC x) false 8 (j + 1) y.1) (fun j2 y2 => gvP (xC x) y.2 y2.2 j2 y2.1) else (j, none)) := by
            unfold clO
            rw [if_neg (by omega), if_pos (by omega)]
          refine am_ifp rfl ?_
          unfold wb_292_146
          have x1 : nI (10 * l.length) + 1 = nI (10 * l.length + 1 + 2 * ([] : List FN).length) := (nI_succ _).symm
          have x3 : nI (10 * l.length) + 3 = nI (10 * l.length + 3) := by rw [show (3 : Int32) = nI 3 from rfl, nb_add]
          have x5 : nI (10 * l.length) + 5 = nI (10 * l.length + 5) := by rw [show (5 : Int32) = nI 5 from rfl, nb_add]
          refine r293 x1 hw (by show 0 < 3; decide) ro (fun j e G4 H4 g4 => ?_) (fun j y e m4 s4 M4 G4 H4 h4 => ?_)
          · refine am_ifn (by decide) ?_
            unfold wb_292_170
            exact r294b x3 (by omega) g4 (fun G5 g5 => am_ifp rfl (r294b x5 (by omega) g5 (fun G6 g6 => r188b rfl l12 g6 (fun G7 g7 => hF j (fun _ => by rw [ep, e]; rfl) (n12 j) G7 H4 g7))))
          · refine am_ifn (by decide) ?_
            unfold wb_292_170
            refine r294 (l := l) (w := 11) (fs := [] ++ [y.2]) (x3.trans (congrArg nI (show 10 * l.length + 3 = 10 * l.length + 1 + 2 * ([] ++ [y.2]).length by show 10 * l.length + 3 = 10 * l.length + 1 + 2 * 1; omega))) hw (by show 1 < 3; decide) (by decide) rfl h4 (fun c G5 H5 g5 => ?_) (fun c j2 e2 G5 H5 g5 => ?_) (fun c j2 y2 e2 m5 s5 M5 G5 H5 h5 => ?_)
            · refine am_ifp rfl (r294b x5 (by omega) g5 (fun G6 g6 => r188b rfl l12 g6 (fun G7 g7 => hF j (fun _ => ?_) (n12 j) G7 H5 g7)))
              rw [ep, e]
              show (if xC x j = 1000011 then bd (smD (xC x) false 8 (j + 1) y.1) (fun j2 y2 => gvP (xC x) y.2 y2.2 j2 y2.1) else (j, none)) = _
              rw [if_neg c]
            · refine am_ifp rfl (r294b x5 (by omega) g5 (fun G6 g6 => r188b rfl l12 g6 (fun G7 g7 => hF j2 (fun _ => ?_) (n12 j2) G7 H5 g7)))
              rw [ep, e]
              show (if xC x j = 1000011 then bd (smD (xC x) false 8 (j + 1) y.1) (fun j2 y2 => gvP (xC x) y.2 y2.2 j2 y2.1) else (j, none)) = _
              rw [if_pos c, e2]
              rfl
            · have e3 : clO (xC x) i q = gvP (xC x) y.2 y2.2 j2 y2.1 := by
                rw [ep, e]
                show (if xC x j = 1000011 then bd (smD (xC x) false 8 (j + 1) y.1) (fun j2 y2 => gvP (xC x) y.2 y2.2 j2 y2.1) else (j, none)) = _
                rw [if_pos c, e2]
                rfl
              refine am_ifp rfl ?_
              refine r294 (l := l) (w := 12) (fs := ([] ++ [y.2]) ++ [y2.2]) (x5.trans (congrArg nI (show 10 * l.length + 5 = 10 * l.length + 1 + 2 * (([] ++ [y.2]) ++ [y2.2]).length by show 10 * l.length + 5 = 10 * l.length + 1 + 2 * 2; omega))) hw (by show 2 < 3; decide) (by decide) rfl h5 (fun c2 G6 H6 g6 => ?_) (fun c2 j3 e4 G6 H6 g6 => ?_) (fun c2 j3 y3 e4 m6 s6 M6 G6 H6 h6 => ?_)
              · refine r188b rfl l12 g6 (fun G7 g7 => hF j2 (fun _ => ?_) (n12 j2) G7 H6 g7)
                rw [e3]
                unfold gvP
                rw [if_neg c2]
              · refine r188b rfl l12 g6 (fun G7 g7 => hF j3 (fun _ => ?_) (n12 j3) G7 H6 g7)
                rw [e3]
                unfold gvP
                rw [if_pos c2, e4]
                rfl
              · have e5 : clO (xC x) i q = tmP (xC x) (1, 1, [y.2, y2.2, y3.2], none) j3 y3.1 := by
                  rw [e3]
                  unfold gvP
                  rw [if_pos c2, e4]
                  rfl
                exact r188 rfl hw h6 (fun j7 e7 G' H' g => hF j7 (fun _ => e5.trans e7) (n12 j7) G' H' g) (fun j7 q7 c7 e7 => hS l12 j7 q7 c7 (e5.trans e7))
        · refine am_ifn (fun z => k1 ((nb_inj (a := kd) (b := 1) (by omega) (by decide)).mp z)) ?_
          have ep : clO (xC x) i q = tmP (xC x) (kd, 1, [], none) (i + 1) q := by
            unfold clO
            rw [if_neg (by omega), if_neg (by omega), if_pos (by omega), ek, Nat.add_sub_cancel_left]
          unfold wb_292_173
          refine am_ifn (fun z => k1 ((nb_inj (a := kd) (b := 1) (by omega) (by decide)).mp z)) ?_
          exact r188 rfl hw ro (fun j5 e5 G' H' g => hF j5 (fun _ => ep.trans e5) (n12 j5) G' H' g) (fun j5 q5 c5 e5 => hS l12 j5 q5 c5 (ep.trans e5))
  have fw : ∀ w (v : Int64), w < 32 → v = lN (WC.getD w 0) → f_211 v G H = b1 (decide (xC x i = 1000000 + w)) := fun w v hw' ev => f211 (x := rb x G H) (j := w) hp.1 hw' ev
  unfold w_292
  rw [fw 4 239 (by decide) rfl, fw 5 239301 (by decide) rfl, fw 6 10153890932 (by decide) rfl, fw 7 754996 (by decide) rfl]
  refine ifd (fun b0 => ifd (fun b1' => ifd (fun b2 => ifd (fun b3 => ?_) (fun b3 => good 3 (by decide) b3)) (fun b2 => good 2 (by decide) b2)) (fun b1' => good 1 (by decide) b1')) (fun b0 => good 0 (by decide) b0)
  unfold wb_292_57
  refine am_ifp rfl (bad _ (fun _ => ?_))
  unfold clO
  rw [if_neg (by omega), if_neg (by omega), if_neg (by omega)]
