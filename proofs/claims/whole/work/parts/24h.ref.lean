/-! the reference reads: a part -/
theorem b99 {v1 : Int32} {G : am_I} {H : am_J} {K : Int32 → am_I → am_J → Prop} {X : Prop} (h19 : G 66 19 = 1) (hK : K 3 G H) : (if (G 66 20) = 0 then K 3 G H else if v1 < 6 then K 3 G H else if (G 66 19) = 0 then X else K 3 G H) := by
  by_cases c : G 66 20 = 0
  · rw [if_pos c]; exact hK
  · rw [if_neg c]
    by_cases d : v1 < 6
    · rw [if_pos d]; exact hK
    · rw [if_neg d, h19]
      exact am_ifn (by decide) hK
theorem RR_e {x : TX} {i e e' q s : Nat} {M : Nat → Nat × Nat} {Q : List (Nat × Nat)} {G : am_I} {H : am_J} (h : RR x i e q s M Q G H) (he : e ≤ e') (he2 : e' ≤ 400) : RR x i e' q s M Q G H := by
  obtain ⟨t, f1, h3, h4, h5, h6, h7, h8, h9, h10, h11, h12, h13⟩ := h
  exact ⟨t, f1, h3, h4, h5, h6, h7, h8, h9, h10, by omega, by omega, he2⟩
theorem RR_20 {x : TX} {i e q s : Nat} {M : Nat → Nat × Nat} {Q : List (Nat × Nat)} {G : am_I} {H : am_J} (hx : XOK x) (h : RR x i e q s M Q G H) : G 66 20 = b1 (!(xw x)) := by
  rw [h.2.1.2.1 20 (by unfold s66; omega)]
  exact hx.2.2.1
theorem dgt {x : TX} {i : Nat} {G : am_I} {H : am_J} {A : Int32 → Prop} (h : RTk (xb x) (xz x) (xR x) (xC x) (xS x) i G H) (hA : A (b1 (decide (xC x i ≤ 1000)))) : (if (G 66 16) = 2 then (if (0 : Int32) < (lg_cmp (H 66 17) 1000) then A 0 else A 1) else A 0) := by
  obtain ⟨h1, h2, h3, h4, _⟩ := h
  obtain ⟨c0, c1, c2, c3⟩ := h4
  rw [h3]
  unfold kdT
  by_cases a : xC x i < 1000000
  · obtain ⟨m, m1, m2, m3⟩ := c1 a
    have ev : (H 66 17).toInt = (m : Int) := by rw [m2]; exact pf_lI (by omega)
    rw [if_pos a, if_pos (by decide)]
    by_cases c : xC x i ≤ 1000
    · rw [decide_eq_true c] at hA
      rw [if_neg (fun q => by have := (lc_gt' ev (show Int64.toInt 1000 = 1000 from rfl)).mp q; omega)]
      exact hA
    · rw [decide_eq_false c] at hA
      rw [if_pos ((lc_gt' ev (show Int64.toInt 1000 = 1000 from rfl)).mpr (by omega))]
      exact hA
  · have nk : ¬ nI (if xC x i < 2000000 then 1 else if xC x i < 3000000 then 3 else 0) = 2 := by
      by_cases b : xC x i < 2000000
      · rw [if_pos b]; decide
      · rw [if_neg b]
        by_cases c : xC x i < 3000000
        · rw [if_pos c]; decide
        · rw [if_neg c]; decide
    rw [decide_eq_false (by omega)] at hA
    rw [if_neg a, if_neg nk]
    exact hA
/-- which word it is, as the reference counts (0: none) -/
def its (law : Bool) (c : Nat) : Nat := if asw law c = true then (if law = true then c - 1000015 else if c = 1000023 then 1 else c - 1000024) else 0
theorem wb60 {x : TX} {i q s : Nat} {M : Nat → Nat × Nat} {P : List (Nat × Nat)} {G : am_I} {H : am_J} {K : Int32 → am_I → am_J → Prop} {v1 : Int32} (hx : XOK x) (h : RR x i i q s M P G H) (c91 : xC x i ≠ 2000091) (ev : v1 = if asw (xw x) (xC x i) = true then nI (its (xw x) (xC x i)) else -1)
    (k0 : ∀ j, ptP (xC x) (xw x) inN i q = (j, none) → ∀ G' H', RB x j G' H' → K 3 G' H')
    (k1 : ∀ j q' f, ptP (xC x) (xw x) inN i q = (j, some (q', f)) → ∀ M' G' H', RR x j j q' (s + 1) M' P G' H' → (∀ k, k < s → M' k = M k) → PC (xw x) M' s (s + 1) f 1 → K 3 G' H') : wb_218_60 v1 (b1 (decide (xC x i ≤ 1000))) G H K := by
  obtain ⟨r1, r2, r3, r4⟩ := RR_c hx h
  have q5 := h.2.2.1
  have n1 : (-1 : Int32) < 6 := by decide
  unfold ptP at k0 k1
  rw [if_neg c91] at k0
  rw [if_neg c91] at k1
  unfold wb_218_60
  by_cases ca : asw (xw x) (xC x i) = true
  · -- a word
    obtain ⟨a1, a2, a3, a4⟩ := asw_c ca
    rw [if_pos ca] at ev
    have il : its (xw x) (xC x i) ≤ 16 := by
      unfold its
      rw [if_pos ca]
      cases hl : xw x with
      | true => rw [if_pos rfl]; omega
      | false =>
        rw [if_neg (by decide)]
        split <;> omega
    have vn : ¬ v1 = -1 := by
      rw [ev]
      exact nb_m1 (by omega)
    rw [decide_eq_false (show ¬ xC x i ≤ 1000 by omega), if_neg vn]
    unfold wb_218_76
    rw [if_neg vn]
    unfold wb_218_86
    rw [if_pos (show b1 false = 0 from rfl)]
    rw [show (1 : Int32) = b1 (decide (asw (xw x) (xC x i) = true)) by rw [decide_eq_true ca]; rfl]
    unfold wb_218_99
    have kf : (¬ asw (xw x) (xC x i) = true ∨ 50 ≤ q) → ∀ G', RB x i G' H → K 3 G' H := fun hq G' g => by
      have q50 : 50 ≤ q := by
        rcases hq with z | z
        · exact absurd ca z
        · exact z
      exact k0 i (by rw [if_pos q50]) G' H g
    by_cases c30 : xC x i = 1000030 ∨ xC x i = 1000031
    · have hl : xw x = false := by
        cases hl : xw x with
        | true => have := a3 hl; omega
        | false => rfl
      have w20 : ∀ {i e q s M Q G H}, RR x i e q s M Q G H → G 66 20 = 1 := fun g => by rw [RR_20 hx g, hl]; rfl
      have eit : its (xw x) (xC x i) = xC x i - 1000024 := by
        unfold its
        rw [if_pos ca, hl, if_neg (by decide), if_neg (by omega)]
      have v6 : ¬ v1 < 6 := by
        rw [ev, eit]
        exact fun q => by have := (nb_lt (b := 6) (by omega) (by decide)).mp q; omega
      have fl' : ¬ 50 ≤ q → ∀ r, wdP (xC x) i (q + 1) = r → (if 50 ≤ q then (i, none) else if xC x i ≤ 1000 then (i + 1, some (q + 1, lfn 0 (xC x i))) else if asw (xw x) (xC x i) = true then wdP (xC x) i (q + 1) else (i, none)) = r := fun q50 r er => by
        rw [if_neg q50, if_neg (by omega), if_pos ca]
        exact er
      by_cases c0 : xC x i = 1000030
      · have e6 : v1 = 6 := by rw [ev, eit, c0]; rfl
        have ew : wdP (xC x) i (q + 1) = (if xC x (i + 1) ≤ 7 then (i + 2, some (q + 1, lfn 2 (xC x (i + 1)))) else (i + 1, none)) := by
          unfold wdP
          rw [if_pos c0]
        refine q221 (o := 2) (w := 0) hx h (fun _ => r3 (by omega)) (fun _ => by rw [e6, hl]; rfl) (fun _ => rfl) (fun hq G' g => b99 g.2.1 (kf hq G' g)) (fun _ q50 G' H' g => ?_)
        obtain ⟨g1, g2, g3, g4⟩ := RR_c hx g
        have g23 : G' 66 23 - 1 = nI s := by rw [g.2.2.2.2.2.2.2.1.1]; exact nI_sub (a := s + 1) (c := 1) (by omega)
        have s4 : s < 400 := by have := g.2.2.2.2.2.2.2.1.2.2.2.1; omega
        rw [w20 g, if_neg (by decide), if_neg v6, g.2.2.2.1, if_pos rfl, g23]
        refine q223 (lo := 0) (hi := 7) hx g (by decide) (by decide) rfl rfl (fun c v G2 g5 => ?_) (fun c1 c2 G2 H2 g5 => ?_)
        · refine am_ifp e6 ⟨nb_gd s4 (by decide), ?_⟩
          exact k0 (i + 1) (fl' (by omega) _ (by rw [ew, if_neg (by omega)])) _ _ (RB_78 g5)
        · obtain ⟨d1, d2, d3, d4⟩ := RR_c hx g5
          refine am_ifp e6 ⟨nb_gd s4 (by decide), ?_⟩
          rw [nI_clamp (by omega : s < 2 ^ 31)]
          exact k1 (i + 2) (q + 1) _ (fl' (by omega) _ (by rw [ew, if_pos c2])) _ _ _ (RR_e (RR_a (w' := xC x (i + 1)) g5 (Or.inl rfl) rfl) (by omega) (by omega)) (fun k hk => up2_n (by omega)) (PC_leaf up2_e (by decide) (okM_2 hl (by omega)))
      · have c1 : xC x i = 1000031 := by omega
        have e7 : v1 = 7 := by rw [ev, eit, c1]; rfl
        have e6 : ¬ v1 = 6 := by rw [e7]; decide
        have ew : wdP (xC x) i (q + 1) = (if xC x (i + 1) ≤ 7 then (if xC x (i + 2) ≤ 11 then (i + 3, some (q + 1, lfn 3 (xC x (i + 1) * 12 + xC x (i + 2)))) else (i + 2, none)) else (i + 1, none)) := by
          unfold wdP
          rw [if_neg c0, if_pos c1]
        refine q221 (o := 3) (w := 0) hx h (fun _ => r3 (by omega)) (fun _ => by rw [e7, hl]; rfl) (fun _ => rfl) (fun hq G' g => b99 g.2.1 (kf hq G' g)) (fun _ q50 G' H' g => ?_)
        obtain ⟨g1, g2, g3, g4⟩ := RR_c hx g
        have g23 : G' 66 23 - 1 = nI s := by rw [g.2.2.2.2.2.2.2.1.1]; exact nI_sub (a := s + 1) (c := 1) (by omega)
        have s4 : s < 400 := by have := g.2.2.2.2.2.2.2.1.2.2.2.1; omega
        rw [w20 g, if_neg (by decide), if_neg v6, g.2.2.2.1, if_pos rfl, g23]
        refine q223 (lo := 0) (hi := 7) hx g (by decide) (by decide) rfl rfl (fun c v G2 g5 => ?_) (fun c1 c2 G2 H2 g5 => ?_)
        · refine am_ifn e6 ?_
          rw [g5.2.1]
          refine am_ifn (by decide) ⟨nb_gd s4 (by decide), ?_⟩
          exact k0 (i + 1) (fl' (by omega) _ (by rw [ew, if_neg (by omega)])) _ _ (RB_78 g5)
        · obtain ⟨d1, d2, d3, d4⟩ := RR_c hx g5
          refine am_ifn e6 ?_
          rw [g5.2.2.2.1]
          refine am_ifp rfl (q223 (lo := 0) (hi := 11) hx g5 (by decide) (by decide) rfl rfl (fun c v G3 g6 => ⟨nb_gd s4 (by decide), ?_⟩) (fun c3 c4 G3 H3 g6 => ⟨nb_gd s4 (by decide), ?_⟩))
          · exact k0 (i + 2) (fl' (by omega) _ (by rw [ew, if_pos c2, if_neg (show ¬ xC x (i + 2) ≤ 11 from fun q => c ⟨Nat.zero_le _, q⟩)])) _ _ (RB_78 g6)
          · obtain ⟨f1, f2, f3, f4⟩ := RR_c hx g6
            have c4 : xC x (i + 2) ≤ 11 := c4
            rw [nI_clamp (by omega : s < 2 ^ 31), show (16 : Int32) = nI 16 from rfl, nb_mul, nb_add]
            refine k1 (i + 3) (q + 1) _ (fl' (by omega) _ (by rw [ew, if_pos c2, if_pos c4])) _ _ _ (RR_e (RR_a (w' := xC x (i + 1) * 12 + xC x (i + 2)) g6 (Or.inr rfl) ?_) (by omega) (by omega)) (fun k hk => up2_n (by omega)) (PC_leaf up2_e (by decide) (okM_3 hl (by omega)))
            show nI (16 * xC x (i + 1) + xC x (i + 2)) = nI (16 * ((xC x (i + 1) * 12 + xC x (i + 2)) / 12) + (xC x (i + 1) * 12 + xC x (i + 2)) % 12)
            exact congrArg nI (by omega)
    · have y30 : xC x i ≠ 1000030 := fun e => c30 (Or.inl e)
      have y31 : xC x i ≠ 1000031 := fun e => c30 (Or.inr e)
      have er1 : ∀ w, rpo false 1 w = w + 1 := fun w => rfl
      have ra0 : ∀ w, nI (rpa 1 w) = 0 := fun w => rfl
      have er0 : ∀ w, rpo true 1 w = if w = 7 then 1 else w - 8 := fun w => rfl
      have er : its (xw x) (xC x i) = rpo (!(xw x)) 1 (xC x i - 1000016) ∧ (xw x = false → its (xw x) (xC x i) < 6) := by
        unfold its
        rw [if_pos ca]
        cases hl : xw x with
        | true =>
          have := a3 hl
          refine ⟨?_, fun q => by cases q⟩
          rw [if_pos rfl, show (!true) = false from rfl, er1]
          omega
        | false =>
          have := a4 hl
          rw [if_neg (by decide)]
          by_cases e : xC x i = 1000023
          · rw [if_pos e, e]
            exact ⟨rfl, fun _ => by decide⟩
          · rw [if_neg e]
            refine ⟨?_, fun _ => by omega⟩
            rw [show (!false) = true from rfl, er0, if_neg (by omega)]
            omega
      refine q221 (o := 1) (w := xC x i - 1000016) hx h (fun _ => r3 (by omega)) (fun _ => by rw [ev, er.1]) (fun _ => (ra0 _).symm) (fun hq G' g => b99 g.2.1 (kf hq G' g)) (fun _ q50 G' H' g => ?_)
      have k := k1 (i + 1) (q + 1) _ (by rw [if_neg (by omega), if_neg (by omega), if_pos ca]; unfold wdP; rw [if_neg y30, if_neg y31]) _ G' H' g (fun k hk => up2_n (by omega)) (PC_leaf up2_e (by decide) (okM_w ca y30 y31))
      rw [RR_20 hx g]
      cases hl : xw x with
      | true => exact am_ifp rfl k
      | false =>
        refine am_ifn (by decide) (am_ifp ?_ k)
        have := er.2 hl
        rw [ev]
        exact (nb_lt (b := 6) (by omega) (by decide)).mpr this
  · rw [if_neg ca] at ev
    subst ev
    rw [if_pos rfl]
    by_cases c : xC x i ≤ 1000
    · -- a number
      obtain ⟨t1, t2, t3, t4, _⟩ := h.1
      obtain ⟨m, m1, m2, m3⟩ := t4.2.1 (by omega)
      have mc : m = xC x i := by omega
      rw [decide_eq_true c, if_neg (show ¬ b1 true = 0 by decide)]
      unfold wb_218_76
      rw [if_pos rfl]
      unfold wb_218_86
      rw [if_neg (show ¬ b1 true = 0 by decide), m2, lN_i, mc]
      have e1 : wb_218_99 (-1) (b1 (decide (xC x i ≤ 1000))) 0 (nI (xC x i)) G H K := by
        unfold wb_218_99
        refine q221 (o := 0) (w := xC x i) hx h (fun _ => r3 (by omega)) (fun _ => rfl) (fun _ => rfl) (fun hq G' g => b99 g.2.1 (k0 i ?_ G' H g)) (fun _ q50 G' H' g => ?_)
        · rw [if_pos (by rcases hq with z | z; exact absurd c z; exact z)]
        · have k := k1 (i + 1) (q + 1) _ (by rw [if_neg (by omega), if_pos c]) _ G' H' g (fun k hk => up2_n (by omega)) (PC_leaf up2_e (by decide) (okM_0 (by omega)))
          by_cases d : G' 66 20 = 0
          · rw [if_pos d]; exact k
          · rw [if_neg d, if_pos n1]; exact k
      rw [decide_eq_true c] at e1
      exact e1
    · -- neither
      rw [decide_eq_false c, if_pos (show b1 false = 0 from rfl)]
      unfold wb_218_76
      rw [if_pos rfl]
      unfold wb_218_86
      rw [if_pos (show b1 false = 0 from rfl)]
      unfold wb_218_99
      show w_221 (b1 (decide False)) 0 0 G H _
      refine q221 (o := 0) (w := 0) hx h (fun q => q.elim) (fun q => q.elim) (fun q => q.elim) (fun hq G' g => b99 g.2.1 (k0 i ?_ G' H g)) (fun q => q.elim)
      by_cases q50 : 50 ≤ q
      · rw [if_pos q50]
      · rw [if_neg q50, if_neg c, if_neg ca]
theorem RR_L {x : TX} {i e q s : Nat} {M : Nat → Nat × Nat} {Q : List (Nat × Nat)} {G : am_I} {H : am_J} (hx : XOK x) (h : RR x i e q s M Q G H) : H 81 = hl_62 81 ∧ H 82 = hl_62 82 ∧ H 83 = hl_62 83 := by
  obtain ⟨l1, l2, l3⟩ := hx.2.2.2
  exact ⟨(h.2.1.2.2.1 81 (by decide)).trans l1, (h.2.1.2.2.1 82 (by decide)).trans l2, (h.2.1.2.2.1 83 (by decide)).trans l3⟩
theorem q218 {x : TX} {i q s : Nat} {M : Nat → Nat × Nat} {P : List (Nat × Nat)} {G : am_I} {H : am_J} {K : Int32 → am_I → am_J → Prop} (hx : XOK x) (h : RR x i i q s M P G H)
    (b0 : xC x i = 2000091 → brk P = 8 → ∀ G' H', RB x i G' H' → K 1 G' H')
    (b1' : xC x i = 2000091 → brk P < 8 → ∀ G' H', RR x (i + 1) (i + 1) q s M ((32, 0) :: P) G' H' → K 1 G' H')
    (k0 : xC x i ≠ 2000091 → ∀ j, ptP (xC x) (xw x) inN i q = (j, none) → ∀ G' H', RB x j G' H' → K 3 G' H')
    (k1 : xC x i ≠ 2000091 → ∀ j q' f, ptP (xC x) (xw x) inN i q = (j, some (q', f)) → ∀ M' G' H', RR x j j q' (s + 1) M' P G' H' → (∀ k, k < s → M' k = M k) → PC (xw x) M' s (s + 1) f 1 → K 3 G' H') : w_218 G H K := by
  obtain ⟨r1, r2, r3, r4⟩ := RR_c hx h
  obtain ⟨l1, l2, l3⟩ := RR_L hx h
  unfold w_218
  rw [show f_216 91 G H = b1 (decide (xC x i = 2000000 + 91)) from f216 (ch := 91) h.1 (by decide) rfl]
  refine ifd (fun c => ?_) (fun c => ?_)
  · have c91 : xC x i ≠ 2000091 := fun q => c (by omega)
    rw [RR_20 hx h]
    refine ifb (fun hl => ?_) (fun hl => ?_)
    · have hw : xw x = true := by
        cases hw : xw x with
        | true => rfl
        | false => rw [hw] at hl; cases hl
      unfold w_220
      refine ⟨11, l220 (E := fun o1 _ => if (G 66 16) = 2 then (if (0 : Int32) < (lg_cmp (H 66 17) 1000) then wb_218_60 o1 0 G H K else wb_218_60 o1 1 G H K) else wb_218_60 o1 0 G H K) h.1 l1 (fun r u hr => ?_) 10 0 (-1) (by omega) (Or.inr ⟨fun k hk => absurd hk (by omega), rfl⟩)⟩
      refine dgt (A := fun z => wb_218_60 r z G H K) h.1 (wb60 hx h c91 ?_ (k0 c91) (k1 c91))
      rcases hr with ⟨k, k1, k2, k3⟩ | ⟨k1, k2⟩
      · have ca : asw (xw x) (xC x i) = true := by rw [hw, asw_t]; exact decide_eq_true (by omega)
        rw [if_pos ca, k3]
        unfold its
        rw [if_pos ca, hw, if_pos rfl]
        exact congrArg nI (by omega)
      · have ca : ¬ asw (xw x) (xC x i) = true := by
          rw [hw, asw_t]
          intro q
          have q := of_decide_eq_true q
          exact k1 (xC x i - 1000016) (by omega) (by omega)
        rw [if_neg ca, k2]
    · have hw : xw x = false := by
        cases hw : xw x with
        | false => rfl
        | true => rw [hw] at hl; cases hl
      unfold w_219
      refine ⟨8, l219 (E := fun o1 _ => wb_218_35 o1 G H K) h.1 l2 (fun r u hr => ?_) 7 0 (-1) (by omega) (Or.inr ⟨fun k hk => absurd hk (by omega), rfl⟩)⟩
      unfold wb_218_35
      refine dgt (A := fun z => wb_218_60 r z G H K) h.1 (wb60 hx h c91 ?_ (k0 c91) (k1 c91))
      rcases hr with ⟨k, k1, k2, k3⟩ | ⟨k1, k2⟩
      · unfold ow at k2
        have ca : asw (xw x) (xC x i) = true := by
          rw [hw, asw_f]
          refine decide_eq_true ?_
          split at k2 <;> omega
        rw [if_pos ca, k3]
        unfold its
        rw [if_pos ca, hw, if_neg (by decide)]
        congr 1
        split at k2
        · rw [if_pos (by omega)]
          omega
        · rw [if_neg (by omega)]
          omega
      · have ca : ¬ asw (xw x) (xC x i) = true := by
          rw [hw, asw_f]
          intro q
          have q := of_decide_eq_true q
          rcases q with q | q
          · exact k1 0 (by omega) (by unfold ow; rw [if_pos rfl]; omega)
          · exact k1 (xC x i - 1000025) (by omega) (by unfold ow; rw [if_neg (by omega)]; omega)
        rw [if_neg ca, k2]
  · exact q217 hx h rfl (Or.inr rfl) (r3 (by omega)) (fun b G' g => b0 (by omega) b G' H g) (fun b G' H' g => b1' (by omega) b G' H' g)
