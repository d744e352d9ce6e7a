/-! the reference reads: tests by depth -/
/-- how a test in brackets is read -/
def PRN (x : TX) (d : Nat) (inn : Nat → Nat → Rs) : Prop := ∀ (i q s : Nat) (M : Nat → Nat × Nat) (P : List (Nat × Nat)) (E : Int32 → am_I → am_J → Prop), brk P + d = 8 → xC x i = 2000040 → (∀ j, inn i q = (j, none) → ∀ t G H, RB x j G H → E t G H) → (∀ j q' f, inn i q = (j, some (q', f)) → GO x 1 E j 2 (fun t G H => t = 2 ∧ ∃ (M' : Nat → Nat × Nat) (s' : Nat), RR x j j q' s' M' P G H ∧ (∀ k, k < s → M' k = M k) ∧ PC (xw x) M' s s' f 20)) → GO x 1 E i 3 (fun t G H => t = 0 ∧ RR x i i q s M P G H)
theorem prn0 {x : TX} (hx : XOK x) : PRN x 0 inN := by
  intro i q s M P E hd cp hF hS u uu t G H st
  obtain ⟨et, g⟩ := st
  obtain ⟨r1, r2, r3, r4⟩ := RR_c hx g
  have il := r3 (by omega)
  obtain ⟨u', rfl⟩ : ∃ u', u = u' + 1 := ⟨u - 1, by omega⟩
  rw [et]
  refine lw0 g.2.2.2.1 ?_
  unfold w_214
  rw [show f_211 14836 G H = b1 (decide (xC x i = 1000000 + 15)) from f211 (j := 15) g.1 (by decide) rfl, show f_216 40 G H = b1 (decide (xC x i = 2000000 + 40)) from f216 (ch := 40) g.1 (by decide) rfl, decide_eq_false (show ¬ xC x i = 1000000 + 15 by omega), decide_eq_true (show xC x i = 2000000 + 40 by omega)]
  refine am_ifp rfl (am_ifn (by decide) ?_)
  exact q217 hx g rfl (Or.inl rfl) il (fun b G' r => lw_bad r (hF i rfl) (by omega)) (fun b => by omega)
theorem prn1 {x : TX} {d : Nat} {X : Nat → Nat → Rs} (hx : XOK x) (hX : adv (xR x).length (tEnd (xC x)) X) (h : RT x 1 0 2 2 1 20 d okT2 X) : PRN x (d + 1) (inO (xC x) 2000041 X) := by
  intro i q s M P E hd cp hF hS u uu t G H st
  obtain ⟨et, g⟩ := st
  obtain ⟨r1, r2, r3, r4⟩ := RR_c hx g
  have il := r3 (by omega)
  obtain ⟨u', rfl⟩ : ∃ u', u = u' + 1 := ⟨u - 1, by omega⟩
  rw [et]
  refine lw0 g.2.2.2.1 ?_
  unfold w_214
  rw [show f_211 14836 G H = b1 (decide (xC x i = 1000000 + 15)) from f211 (j := 15) g.1 (by decide) rfl, show f_216 40 G H = b1 (decide (xC x i = 2000000 + 40)) from f216 (ch := 40) g.1 (by decide) rfl, decide_eq_false (show ¬ xC x i = 1000000 + 15 by omega), decide_eq_true (show xC x i = 2000000 + 40 by omega)]
  refine am_ifp rfl (am_ifn (by decide) ?_)
  refine q217 hx g rfl (Or.inl rfl) il (fun b => by omega) (fun b G1 H1 g1 => ?_)
  refine h (i + 1) q s M ((31, 0) :: P) E (by show bnN 31 < 1; decide) (by show (if 31 ≤ 31 then 1 else 0) + brk P + d = 8; rw [if_pos (by decide)]; omega) (by show (if 31 ≤ 31 then nI 31 else inr P) ≠ 32; rw [if_pos (by decide)]; decide) (fun j e => hF j (by unfold inO; rw [e]; rfl)) (fun j q' f e => ?_) u' (by omega) 0 G1 H1 ⟨rfl, g1⟩
  have hp : inO (xC x) 2000041 X i q = (if xC x j = 2000041 then (j + 1, some (q', f)) else (j, none)) := by
    unfold inO
    rw [e]
    rfl
  obtain ⟨a1, a2, a3⟩ := hX (i + 1) q j (q', f) il e
  obtain ⟨a3, a4⟩ := a3
  intro u2 uu2 t2 G2 H2 st2
  obtain ⟨et2, fs⟩ := st2
  obtain ⟨A, M2, s2, g1, g2, g3, g4⟩ := fs
  obtain ⟨v1, v2, v3, v4⟩ := RR_c hx g1
  obtain ⟨u3, rfl⟩ : ∃ u3, u2 = u3 + 1 := ⟨u2 - 1, by omega⟩
  rw [et2]
  refine lw2 g1.2.2.2.1 ?_
  unfold w_229
  rw [show f_211 1476 G2 H2 = b1 (decide (xC x j = 1000000 + 14)) from f211 (j := 14) g1.1 (by decide) rfl, show f_211 498 G2 H2 = b1 (decide (xC x j = 1000000 + 13)) from f211 (j := 13) g1.1 (by decide) rfl, decide_eq_false (show ¬ xC x j = 1000000 + 14 by omega), decide_eq_false (show ¬ xC x j = 1000000 + 13 by omega)]
  refine am_ifp rfl (am_ifp rfl ?_)
  refine q227 g1.2.2.2.2.2.2.2.1 ?_
  have ei : inr (A ++ (31, 0) :: P) = 31 := by
    rw [inr_app A _ (fun y hy => bn_br (g2 y hy))]
    show (if 31 ≤ 31 then nI 31 else inr P) = 31
    rw [if_pos (by decide)]
    rfl
  rw [ei, show f_216 41 G2 H2 = b1 (decide (xC x j = 2000000 + 41)) from f216 (ch := 41) g1.1 (by decide) rfl]
  refine am_ifn (by decide) ?_
  refine q212 hx g1 (fun c => v3 (by omega)) (fun c G3 r3 => ?_) (fun c G3 H3 r3 => ?_)
  · rw [if_neg (by omega)] at hp
    rw [r3.2.1]
    exact am_ifn (by decide) (lw_bad r3 (hF j hp) (by omega))
  · rw [if_pos (by omega)] at hp
    have jl := v3 (by omega)
    rw [r3.2.2.2.1]
    refine am_ifp rfl (q226s (lvl := 1) r3 (by decide) (by decide) (by show bnN 31 < 1; decide) g2 (fun G4 r4' => ?_))
    exact hS (j + 1) q' f hp u3 (by omega) 2 _ H3 ⟨rfl, (fl A M2 s2).1, (fl A M2 s2).2, RR_e (RR_cl r4' (by decide)) (by omega) (by omega), g3, g4⟩
theorem bnN_cm : ∀ o, 9 ≤ o → o ≤ 11 → bnN (o + 16) = 4 := by
  intro o h1 h2
  rcases (by omega : o = 9 ∨ o = 10 ∨ o = 11) with rfl | rfl | rfl
  all_goals rfl
/-- behind the second of the two that are compared -/
theorem pl_2 {x : TX} {d N s j3 q3 o s3 : Nat} {M M3 : Nat → Nat × Nat} {P : List (Nat × Nat)} {f g : FN} {E : Int32 → am_I → am_J → Prop} (hd8 : d ≤ 8) (hk : inr P ≠ 32) (h9 : 9 ≤ o) (h11 : o ≤ 11) (m3 : ∀ k, k < s → M3 k = M k) (p3 : PC (xw x) M3 s s3 f (2 * d + 3)) (se : sEnd (xC x) j3) (hu : GO x 1 E j3 2 (fun t G H => t = 2 ∧ FSx x 3 s M P (ntf N (bnd o f g)) 20 j3 q3 G H)) : GO x 1 E j3 3 (fun t G H => t = 3 ∧ FSx x 5 s3 M3 ((o + 16, 0) :: (nts N ++ P)) g (2 * d + 3) j3 q3 G H) := by
  intro u uu t G H st
  obtain ⟨et, A, M4, s4, w1, w2, w3, w4⟩ := st
  obtain ⟨u', rfl⟩ : ∃ u', u = u' + 1 := ⟨u - 1, by omega⟩
  have b4 := bnN_cm o h9 h11
  rw [et]
  refine lw3 w1.2.2.2.1 (q224o w1.1 (fun _ => ?_) (fun c4 c8 => absurd ⟨c4, c8⟩ se))
  unfold wb_224_71
  rw [if_pos rfl]
  refine q227 w1.2.2.2.2.2.2.2.1 ?_
  have ei : inr (A ++ (o + 16, 0) :: (nts N ++ P)) = inr P := by
    rw [inr_app A _ (fun y hy => bn_br (by have := w2 y hy; omega))]
    show (if 31 ≤ o + 16 then nI (o + 16) else inr (nts N ++ P)) = inr P
    rw [if_neg (by omega), inr_nts]
  rw [ei, if_neg hk]
  have w : wb_224_163 G H (fun q4 I5 L6 => lw_213_20 u' 1 q4 I5 L6 E) := by
    unfold wb_224_163
    refine q228 w1.2.2.2.2.2.2.2.1 ?_
    have ec : cmpd (A ++ (o + 16, 0) :: (nts N ++ P)) = true := by
      rw [cmpd_ar A _ (fun y hy => bn_ar (w2 y hy))]
      show (if o + 16 ≤ 24 then cmpd (nts N ++ P) else decide (o + 16 ≤ 27)) = true
      rw [if_neg (by omega)]
      exact decide_eq_true (by omega)
    rw [ec]
    refine am_ifn (by decide) ?_
    have c : ¬ ao (o + 16, 0) = true := fun q => by
      have q : o + 16 = 29 ∨ o + 16 = 30 := of_decide_eq_true q
      omega
    have f1 : fl (A ++ (o + 16, 0) :: nts N) M4 s4 = fl (nts N) (up2 (fl A M4 s4).1 (fl A M4 s4).2 (o, 0)) ((fl A M4 s4).2 + 1) := by
      rw [fl_app]
      show (if ao (o + 16, 0) = true then _ else fl (nts N) (up2 (fl A M4 s4).1 (fl A M4 s4).2 (o + 16 - 16, 0)) ((fl A M4 s4).2 + 1)) = _
      rw [if_neg c, Nat.add_sub_cancel]
    have ps := p3.1
    have ps4 := w4.1
    have pm := PC_bin (o := o) (w := 0) (PC_cg (M' := up2 (fl A M4 s4).1 (fl A M4 s4).2 (o, 0)) p3 (fun k k1 k2 => by rw [up2_n (by omega)]; exact w3 k k2)) (PC_cg (M' := up2 (fl A M4 s4).1 (fl A M4 s4).2 (o, 0)) w4 (fun k k1 k2 => up2_n (by omega))) up2_e (by omega) (by omega) (by omega)
    have pm := PC_up (d' := 20) pm (by omega)
    obtain ⟨y1, y2⟩ := fl_nts N _ _ _ pm
    refine hu u' (by omega) 2 G H ⟨rfl, A ++ (o + 16, 0) :: nts N, M4, s4, ?_, fun y hy => ?_, fun k hk => ?_, ?_⟩
    · rw [List.append_assoc]; exact w1
    · rcases List.mem_append.mp hy with z | z
      · have := w2 y z; omega
      · rcases List.mem_cons.mp z with z | z
        · rw [z]
          show 3 ≤ bnN (o + 16)
          omega
        · rw [nts_m z]
          decide
    · rw [f1, y2 k (by omega), up2_n (by omega), w3 k (by omega)]
      exact m3 k hk
    · rw [f1]
      exact y1
  by_cases cm : inr P = -1
  · rw [if_pos cm, if_neg (by decide)]
    exact w
  · rw [if_neg cm]
    exact w
theorem rt_pl {x : TX} {d : Nat} {inn : Nat → Nat → Rs} (hx : XOK x) (hin : PRN x d inn) : RT x 1 0 2 2 3 20 d okT2 (plP (xC x) inn (smD (xC x) (xw x) d)) := by
  intro i q s M P E hP hd hk hF hS
  have hk : inr P ≠ 32 := hk
  have plE : ∀ i0, ntk (xC x) i = i0 → xC x i0 ≠ 1000015 → GO x 1 E i0 3 (fun t G H => t = 0 ∧ RR x i0 i0 q s M (nts (i0 - i) ++ P) G H) := by
    intro i0 e c
    by_cases cp : xC x i0 = 2000040
    · have pe : plP (xC x) inn (smD (xC x) (xw x) d) i q = thn (inn i0 q) (fun j q' f => (j, some (q', ntf (i0 - i) f))) := by
        unfold plP
        rw [e, if_pos cp]
      refine hin i0 q s M (nts (i0 - i) ++ P) E (by rw [brk_nts]; exact hd) cp (fun j ej => hF j (by rw [pe, ej]; rfl)) (fun j q' f ej => ?_)
      have hu := hS j q' (ntf (i0 - i) f) (by rw [pe, ej]; rfl)
      intro u uu t G H st
      obtain ⟨et, M', s', g1, g2, g3⟩ := st
      obtain ⟨y1, y2⟩ := fl_nts (i0 - i) M' s' f g3
      have ps := g3.1
      exact hu u uu t G H ⟨et, nts (i0 - i), M', s', g1, fun y hy => by rw [nts_m hy]; decide, fun k hk => (y2 k (by omega)).trans (g2 k hk), y1⟩
    · have pe : plP (xC x) inn (smD (xC x) (xw x) d) i q = thn (smD (xC x) (xw x) d i0 q) (fun j q' f => if 9 ≤ sgo (xC x j) ∧ sgo (xC x j) ≤ 11 then thn (smD (xC x) (xw x) d (j + 1) q') (fun j2 q2 g => (j2, some (q2, ntf (i0 - i) (bnd (sgo (xC x j)) f g)))) else (j, none)) := by
        unfold plP
        rw [e, if_neg cp]
      intro u uu t G H st
      obtain ⟨et, g⟩ := st
      obtain ⟨r1, r2, r3, r4⟩ := RR_c hx g
      have sm1 := rt_sm (x0 := 1) hx d i0 q s M (nts (i0 - i) ++ P) E (tl_nts (by decide) hP) (by rw [brk_nts]; exact hd) trivial (fun j ej => hF j (by rw [pe, ej]; rfl)) (fun j q' f ej => by
        have pe2 : plP (xC x) inn (smD (xC x) (xw x) d) i q = (if 9 ≤ sgo (xC x j) ∧ sgo (xC x j) ≤ 11 then thn (smD (xC x) (xw x) d (j + 1) q') (fun j2 q2 g => (j2, some (q2, ntf (i0 - i) (bnd (sgo (xC x j)) f g)))) else (j, none)) := by rw [pe, ej]; rfl
        obtain ⟨a1, a2, a3⟩ := smD_adv (law := xw x) (XTN hx) d i0 q j (q', f) r2 ej
        intro u2 uu2 t2 G2 H2 st2
        obtain ⟨et2, A, M2, s2, g1, g2, g3, g4⟩ := st2
        obtain ⟨u3, rfl⟩ : ∃ u3, u2 = u3 + 1 := ⟨u2 - 1, by omega⟩
        rw [et2]
        refine lw3 g1.2.2.2.1 (q224o g1.1 (fun _ => ?_) (fun c4 c8 => absurd ⟨c4, c8⟩ a3))
        unfold wb_224_71
        rw [if_pos rfl]
        refine q227 g1.2.2.2.2.2.2.2.1 ?_
        have ei : inr (A ++ (nts (i0 - i) ++ P)) = inr P := by
          rw [inr_app A _ (fun y hy => bn_br (by have := g2 y hy; omega)), inr_nts]
        rw [ei, if_neg hk]
        have w : wb_224_163 G2 H2 (fun q4 I5 L6 => lw_213_20 u3 1 q4 I5 L6 E) := by
          refine q163 hx g1 g2 (tl_nts (by decide) hP) (cmpd_nts hP) (fun ns G3 H3 r => ?_) (fun c9 c11 G3 H3 r => ?_)
          · exact lw_bad r (hF j (by rw [pe2, if_neg ns])) (by omega)
          · rw [if_pos ⟨c9, c11⟩] at pe2
            obtain ⟨z1, z2, z3, z4⟩ := RR_c hx r
            refine rt_sm (x0 := 1) hx d (j + 1) q' (fl A M2 s2).2 (fl A M2 s2).1 ((sgo (xC x j) + 16, 0) :: (nts (i0 - i) ++ P)) E ?_ ?_ trivial (fun j2 e2 => hF j2 (by rw [pe2, e2]; rfl)) (fun j2 q2 g' e2 => ?_) u3 (by omega) 1 G3 H3 ⟨rfl, r⟩
            · show bnN (sgo (xC x j) + 16) < 5
              rw [bnN_cm _ c9 c11]
              decide
            · show (if 31 ≤ sgo (xC x j) + 16 then 1 else 0) + brk (nts (i0 - i) ++ P) + d = 8
              rw [if_neg (by omega), brk_nts]
              omega
            · obtain ⟨b1', b2', b3'⟩ := smD_adv (law := xw x) (XTN hx) d (j + 1) q' j2 (q2, g') z2 e2
              exact pl_2 (by omega) hk c9 c11 g3 g4 b3' (hS j2 q2 _ (by rw [pe2, e2]; rfl))
        by_cases cm : inr P = -1
        · rw [if_pos cm, if_neg (by decide)]
          exact w
        · rw [if_neg cm]
          exact w)
      obtain ⟨u', rfl⟩ : ∃ u', u = u' + 1 := ⟨u - 1, by omega⟩
      rw [et]
      refine lw0 g.2.2.2.1 ?_
      unfold w_214
      rw [show f_211 14836 G H = b1 (decide (xC x i0 = 1000000 + 15)) from f211 (j := 15) g.1 (by decide) rfl, show f_216 40 G H = b1 (decide (xC x i0 = 2000000 + 40)) from f216 (ch := 40) g.1 (by decide) rfl, decide_eq_false (show ¬ xC x i0 = 1000000 + 15 by omega), decide_eq_false (show ¬ xC x i0 = 2000000 + 40 by omega)]
      refine am_ifp rfl (am_ifp rfl ?_)
      exact lw1_inv g.2.2.2.1 (sm1 (u' + 1) uu 1 G H ⟨rfl, g⟩)
  have main : ∀ k i', 400 ≤ i' + k → ntk (xC x) i = rnk (fun k => decide (xC x k = 1000015)) k i' → i ≤ i' → GO x 1 E i' 3 (fun t G H => t = 0 ∧ RR x i' i' q s M (nts (i' - i) ++ P) G H) := by
    intro k
    induction k with
    | zero =>
      intro i' hk e hi u uu t G H st
      obtain ⟨r1, r2, r3, r4⟩ := RR_c hx st.2
      have en : i' = (xR x).length := by omega
      exact plE i' e (by rw [en, (XTN hx).2]; decide) u uu t G H st
    | succ k ih =>
      intro i' hk e hi
      have e : ntk (xC x) i = (if decide (xC x i' = 1000015) = true then rnk (fun k => decide (xC x k = 1000015)) k (i' + 1) else i') := e
      by_cases c : xC x i' = 1000015
      · rw [if_pos (decide_eq_true c)] at e
        have nx := ih (i' + 1) (by omega) e (by omega)
        rw [show i' + 1 - i = (i' - i) + 1 by omega] at nx
        intro u uu t G H st
        obtain ⟨et, g⟩ := st
        obtain ⟨r1, r2, r3, r4⟩ := RR_c hx g
        have il := r3 (by omega)
        obtain ⟨u', rfl⟩ : ∃ u', u = u' + 1 := ⟨u - 1, by omega⟩
        rw [et]
        refine lw0 g.2.2.2.1 ?_
        unfold w_214
        rw [show f_211 14836 G H = b1 (decide (xC x i' = 1000000 + 15)) from f211 (j := 15) g.1 (by decide) rfl, decide_eq_true (show xC x i' = 1000000 + 15 by omega)]
        refine am_ifn (by decide) ?_
        have w : w_215 (nI 28) (nI 0) G (fun I6 => w_207 I6 H (fun I7 L8 => lw_213_20 u' 1 0 I7 L8 E)) := q215 g (by omega) (by decide) (by decide) (by decide) (fun q => by omega) (fun G1 g1 => qnx hx g1 il (fun G2 H2 g2 => nx u' (by omega) 0 G2 H2 ⟨rfl, g2⟩))
        exact w
      · rw [if_neg (fun z => c (of_decide_eq_true z))] at e
        exact plE i' e c
  have m := main 400 i (by omega) rfl (Nat.le_refl _)
  rw [Nat.sub_self] at m
  exact m
theorem rt_ts {x : TX} (hx : XOK x) : ∀ d, RT x 1 0 2 2 1 20 d okT2 (tsD (xC x) (xw x) d)
  | 0 => rt_sh hx (Or.inl ⟨rfl, rfl⟩) (rt_sh hx (Or.inr ⟨rfl, rfl⟩) (rt_pl hx (prn0 hx)))
  | d + 1 => rt_sh hx (Or.inl ⟨rfl, rfl⟩) (rt_sh hx (Or.inr ⟨rfl, rfl⟩) (rt_pl hx (prn1 hx (tsD_adv (XTN hx) d) (rt_ts hx d))))
