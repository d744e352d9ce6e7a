/-! the reference reads: 'or', 'and' -/
theorem q229e {x : TX} {i e q s o : Nat} {M : Nat → Nat × Nat} {Q : List (Nat × Nat)} {G : am_I} {H : am_J} {K : am_I → Prop} {y : Int32} (h : RR x i e q s M Q G H) (he : e < 400) (ho : o = 13 ∨ o = 14) (ey : y = nI (43 - o)) (hK : ∀ G', RR x i (e + 1) q (s + 1) (up2 M s (o, 0)) ((43 - o, s) :: Q) G' H → K G') : w_215 y (G 66 23) G (fun I2 => w_222 y 0 I2 K) := by
  obtain ⟨t, f1, h3, h4, h5, h6, h7, h8, h9, h10, h11, h12, h13⟩ := h
  obtain ⟨a1, a2, a3, a4, a5, a6⟩ := h8
  have el : ((43 - o, s) :: Q).length = Q.length + 1 := rfl
  have ea : ao (43 - o, s) = true := decide_eq_true (by show 43 - o = 29 ∨ 43 - o = 30; omega)
  have ew : wtP ((43 - o, s) :: Q) = wtP Q := by
    show (if ao (43 - o, s) = true then 0 else 1) + wtP Q = wtP Q
    rw [if_pos ea, Nat.zero_add]
  have eb : brk ((43 - o, s) :: Q) = brk Q := by
    show (if 31 ≤ 43 - o then 1 else 0) + brk Q = brk Q
    rw [if_neg (by omega), Nat.zero_add]
  unfold w_215
  rw [a2, a1]
  refine ⟨nb_gd (by omega) (by decide), nb_gd (by omega) (by decide), ?_⟩
  rw [nI_clamp (by omega : Q.length < 2 ^ 31), ← nI_succ]
  show w_222 y 0 (am_u (am_u (am_u G 79 Q.length y) 80 Q.length (nI s)) 66 29 (nI (Q.length + 1))) K
  unfold w_222
  rw [show am_u (am_u (am_u G 79 Q.length y) 80 Q.length (nI s)) 66 29 (nI (Q.length + 1)) 66 23 = nI s by rw [uu_n (by decide), uu_c (by decide), uu_c (by decide)]; exact a1]
  refine ⟨nb_gd (by omega) (by decide), nb_gd (by omega) (by decide), ?_⟩
  rw [nI_clamp (by omega : s < 2 ^ 31), ← nI_succ]
  refine hK _ ⟨RTk_cg t (fun k k1 k2 => ?_), ⟨fun c c1 c2 c3 c4 c5 => ?_, fun k hk => ?_, f1.2.2.1, f1.2.2.2⟩, h3, ?_, ?_, ?_, by rw [eb]; exact h7, ⟨uu_e, ?_, ⟨?_, ?_, ?_⟩, by omega, by omega, fun z hz => ?_⟩, fun k hk => ?_, fun z hz az => ?_, by omega, by omega, by omega⟩
  · rw [uu_n (by omega), uu_c (by decide), uu_c (by decide), uu_n (by omega), uu_c (by decide), uu_c (by decide)]
  · rw [uu_h c1, uu_h c3, uu_h c2, uu_h c1, uu_h c5, uu_h c4]; exact f1.1 c c1 c2 c3 c4 c5
  · rw [uu_n (by unfold s66 at hk; omega), uu_c (by decide), uu_c (by decide), uu_n (by unfold s66 at hk; omega), uu_c (by decide), uu_c (by decide)]; exact f1.2.1 k hk
  · rw [uu_n (by decide), uu_c (by decide), uu_c (by decide), uu_n (by decide), uu_c (by decide), uu_c (by decide)]; exact h4
  · rw [uu_n (by decide), uu_c (by decide), uu_c (by decide), uu_n (by decide), uu_c (by decide), uu_c (by decide)]; exact h5
  · rw [uu_n (by decide), uu_c (by decide), uu_c (by decide), uu_n (by decide), uu_c (by decide), uu_c (by decide), eb]; exact h6
  · rw [uu_n (by decide), uu_c (by decide), uu_c (by decide), uu_e, el]
  · rw [uu_c (by decide), uu_c (by decide), uu_c (by decide), uu_c (by decide), uu_c (by decide), uu_e]; exact ey
  · rw [uu_c (by decide), uu_c (by decide), uu_c (by decide), uu_c (by decide), uu_e]
  · refine PIL_cg a3 (fun k hk => ⟨?_, ?_⟩)
    · rw [uu_c (by decide), uu_c (by decide), uu_c (by decide), uu_c (by decide), uu_c (by decide), uu_n (by omega)]
    · rw [uu_c (by decide), uu_c (by decide), uu_c (by decide), uu_c (by decide), uu_n (by omega), uu_c (by decide)]
  · rcases List.mem_cons.mp hz with e | e
    · rw [e]; exact ⟨by show 20 ≤ 43 - o; omega, by show 43 - o ≤ 32; omega, by show s < 400; omega⟩
    · exact a6 z e
  · have z77 : ∀ k, am_u (am_u (am_u G 79 Q.length y) 80 Q.length (nI s)) 66 29 (nI (Q.length + 1)) 77 k = G 77 k := fun k => by rw [uu_c (by decide), uu_c (by decide), uu_c (by decide)]
    have z78 : ∀ k, am_u (am_u (am_u G 79 Q.length y) 80 Q.length (nI s)) 66 29 (nI (Q.length + 1)) 78 k = G 78 k := fun k => by rw [uu_c (by decide), uu_c (by decide), uu_c (by decide)]
    by_cases e : k = s
    · refine ⟨?_, ?_⟩
      · rw [e, uu_c (by decide), uu_c (by decide), uu_e, up2_e]
        rcases ho with rfl | rfl
        · exact ey
        · exact ey
      · rw [e, uu_c (by decide), uu_e, up2_e]
        rcases ho with rfl | rfl
        · rfl
        · rfl
    · refine ⟨?_, ?_⟩
      · rw [uu_c (by decide), uu_c (by decide), uu_n e, up2_n e, z77]
        exact (h9 k (by omega)).1
      · rw [uu_c (by decide), uu_n e, uu_c (by decide), up2_n e, z78]
        exact (h9 k (by omega)).2
  · rcases List.mem_cons.mp hz with e | e
    · rw [e]
      refine ⟨by show s < s + 1; omega, ?_⟩
      show ((up2 M s (o, 0)) s).1 = 13 ∨ ((up2 M s (o, 0)) s).1 = 14
      rw [up2_e]
      exact ho
    · obtain ⟨b1', b2⟩ := h10 z e az
      exact ⟨by omega, by rw [up2_n (by omega)]; exact b2⟩
theorem q229w {x : TX} {j q s lvl D o : Nat} {M : Nat → Nat × Nat} {P : List (Nat × Nat)} {f : FN} {G : am_I} {H : am_J} {K : Int32 → am_I → am_J → Prop} (hx : XOK x) (h : FSx x lvl s M P f D j q G H) (hP : toplt lvl P) (ho : (o = 13 ∧ lvl = 1) ∨ (o = 14 ∧ lvl = 2)) (hc : xC x j = 1000000 + o) (hK : ∀ s2 M2 G' H', RR x (j + 1) (j + 1) q (s2 + 1) (up2 M2 s2 (o, 0)) ((43 - o, s2) :: P) G' H' → (∀ k, k < s → M2 k = M k) → PC (xw x) M2 s s2 f D → K 0 G' H') : w_229 G H K := by
  obtain ⟨A, M', s', h1, h2, h3, h5⟩ := h
  obtain ⟨r1, r2, r3, r4⟩ := RR_c hx h1
  have jl := r3 (by omega)
  unfold w_229
  rw [show f_211 1476 G H = b1 (decide (xC x j = 1000000 + 14)) from f211 (j := 14) h1.1 (by decide) rfl, show f_211 498 G H = b1 (decide (xC x j = 1000000 + 13)) from f211 (j := 13) h1.1 (by decide) rfl]
  rcases ho with ⟨rfl, rfl⟩ | ⟨rfl, rfl⟩
  · rw [decide_eq_false (show ¬ xC x j = 1000000 + 14 by omega), decide_eq_true hc]
    refine am_ifp rfl (am_ifn (by decide) ?_)
    unfold wb_229_22
    refine am_ifp rfl ?_
    unfold wb_229_32
    refine q226s (lvl := 1) h1 (by decide) (by decide) hP h2 (fun G1 g1 => ?_)
    refine am_ifp rfl ?_
    unfold wb_229_47
    refine q229e (o := 13) (y := 30) (K := fun I3 => w_207 I3 H (fun I4 L5 => K 0 I4 L5)) g1 (by omega) (Or.inl rfl) rfl (fun G2 g2 => ?_)
    exact qnx hx g2 jl (fun G3 H3 g3 => hK _ _ G3 H3 g3 h3 h5)
  · rw [decide_eq_true hc]
    refine am_ifn (by decide) ?_
    unfold wb_229_22
    refine am_ifn (by decide) ?_
    unfold wb_229_32
    refine q226s (lvl := 2) h1 (by decide) (by decide) hP h2 (fun G1 g1 => ?_)
    refine am_ifn (by decide) ?_
    unfold wb_229_47
    refine q229e (o := 14) (y := 29) (K := fun I3 => w_207 I3 H (fun I4 L5 => K 0 I4 L5)) g1 (by omega) (Or.inr rfl) rfl (fun G2 g2 => ?_)
    exact qnx hx g2 jl (fun G3 H3 g3 => hK _ _ G3 H3 g3 h3 h5)
def okT2 (P : List (Nat × Nat)) : Prop := inr P ≠ 32
theorem fl_2 {A : List (Nat × Nat)} {y : Nat × Nat} {M : Nat → Nat × Nat} {s : Nat} (h : ao y = true) : fl (A ++ [y]) M s = (up2 (fl A M s).1 y.2 (((fl A M s).1 y.2).1, (fl A M s).2), (fl A M s).2) := by
  rw [fl_app]
  show (if ao y = true then fl [] (up2 (fl A M s).1 y.2 (((fl A M s).1 y.2).1, (fl A M s).2)) (fl A M s).2 else _) = _
  rw [if_pos h]
  rfl
theorem rt_sh {x : TX} {lvl o D d : Nat} {X : Nat → Nat → Rs} (hx : XOK x) (ho : (o = 13 ∧ lvl = 1) ∨ (o = 14 ∧ lvl = 2)) (h : RT x 1 0 2 2 (lvl + 1) D d okT2 X) : RT x 1 0 2 2 lvl D d okT2 (lpW (xC x) o X) := by
  intro i q s M P E hP hd hk hF hS
  have loop : ∀ k j q' f, lpW (xC x) o X i q = sl (xC x) o X k j q' f → GO x 1 E j 2 (fun t G H => t = 2 ∧ FSx x lvl s M P f D j q' G H) := by
    intro k
    induction k with
    | zero => intro j q' f e; exact hS j q' f e
    | succ k ih =>
      intro j q' f e
      have e : lpW (xC x) o X i q = (if xC x j = 1000000 + o then thn (X (j + 1) q') (fun j2 q2 g => sl (xC x) o X k j2 q2 (shd o f g)) else (j, some (q', f))) := e
      by_cases c : xC x j = 1000000 + o
      · rw [if_pos c] at e
        have bl : bnN (43 - o) = lvl := by
          rcases ho with ⟨rfl, rfl⟩ | ⟨rfl, rfl⟩
          · rfl
          · rfl
        have nx : ∀ s2 M2, (∀ k, k < s → M2 k = M k) → PC (xw x) M2 s s2 f D → GO x 1 E (j + 1) 3 (fun t G H => t = 0 ∧ RR x (j + 1) (j + 1) q' (s2 + 1) (up2 M2 s2 (o, 0)) ((43 - o, s2) :: P) G H) := by
          intro s2 M2 m2 p2
          have ps := p2.1
          refine h (j + 1) q' (s2 + 1) _ _ E ?_ ?_ ?_ (fun j2 e2 => hF j2 (by rw [e, e2]; rfl)) (fun j2 q2 g e2 => ?_)
          · show bnN (43 - o) < lvl + 1
            omega
          · show (if 31 ≤ 43 - o then 1 else 0) + brk P + d = 8
            rw [if_neg (by omega)]
            omega
          · show (if 31 ≤ 43 - o then nI (43 - o) else inr P) ≠ 32
            rw [if_neg (by omega)]
            exact hk
          · have hu := ih j2 q2 (shd o f g) (by rw [e, e2]; rfl)
            intro u uu t G H st
            obtain ⟨A, M', s', g1, g2, g3, g4⟩ := st.2
            have ea : ao (43 - o, s2) = true := decide_eq_true (by show 43 - o = 29 ∨ 43 - o = 30; omega)
            have gs2 : (fl A M' s').1 s2 = (o, 0) := by rw [g3 s2 (by omega), up2_e]
            have f1 : fl (A ++ [(43 - o, s2)]) M' s' = (up2 (fl A M' s').1 s2 (o, (fl A M' s').2), (fl A M' s').2) := by
              rw [fl_2 ea]
              show (up2 (fl A M' s').1 s2 (((fl A M' s').1 s2).1, (fl A M' s').2), (fl A M' s').2) = _
              rw [gs2]
            have g4s := g4.1
            have sz := fl_sz A M' s'
            have wa := wtP_app A ((43 - o, s2) :: P)
            have b4 := g1.2.2.2.2.2.2.2.1.2.2.2.1
            refine hu u uu t G H ⟨st.1, A ++ [(43 - o, s2)], M', s', ?_, fun y hy => ?_, fun k hk => ?_, ?_⟩
            · rw [List.append_assoc]; exact g1
            · rcases List.mem_append.mp hy with z | z
              · have := g2 y z; omega
              · rw [List.mem_singleton.mp z]
                show lvl ≤ bnN (43 - o)
                omega
            · rw [f1]
              show up2 (fl A M' s').1 s2 (o, (fl A M' s').2) k = M k
              rw [up2_n (by omega), g3 k (by omega), up2_n (by omega)]
              exact m2 k hk
            · rw [f1]
              show PC (xw x) (up2 (fl A M' s').1 s2 (o, (fl A M' s').2)) s (fl A M' s').2 (shd o f g) D
              have pm := PC_sh (o := o) (PC_cg (M' := up2 (fl A M' s').1 s2 (o, (fl A M' s').2)) p2 (fun k k1 k2 => by rw [up2_n (by omega), g3 k (by omega), up2_n (by omega)])) up2_e (by omega) (by omega) (PC_cg (M' := up2 (fl A M' s').1 s2 (o, (fl A M' s').2)) g4 (fun k k1 k2 => up2_n (by omega)))
              rw [Nat.max_eq_left (Nat.le_refl _)] at pm
              exact pm
        intro u uu t G H st
        obtain ⟨et, fs⟩ := st
        have fs' := fs
        obtain ⟨A, M', s', g1, _⟩ := fs'
        have jl := (RR_c hx g1).2.2.1 (by omega)
        obtain ⟨u', rfl⟩ : ∃ u', u = u' + 1 := ⟨u - 1, by omega⟩
        rw [et]
        exact lw2 (FS_19 fs) (q229w hx fs hP ho c (fun s2 M2 G' H' g m2 p2 => nx s2 M2 m2 p2 u' (by omega) 0 G' H' ⟨rfl, g⟩))
      · rw [if_neg c] at e
        exact hS j q' f e
  exact h i q s M P E (tl_up (by omega) hP) hd hk (fun j e => hF j (by unfold lpW; rw [e]; rfl)) (fun j q' f e => by
    have hu := loop 400 j q' f (by unfold lpW; rw [e]; rfl)
    intro u uu t G H st
    exact hu u uu t G H ⟨st.1, FS_up st.2 (by omega) (Nat.le_refl _)⟩)
