/-! the reference reads: brackets, parts -/
theorem q217 {x : TX} {i q s o : Nat} {M : Nat → Nat × Nat} {Q : List (Nat × Nat)} {G : am_I} {H : am_J} {K : am_I → am_J → Prop} {y : Int32} (hx : XOK x) (h : RR x i i q s M Q G H) (ey : y = nI o) (ho : o = 31 ∨ o = 32) (hi : i < (xR x).length) (k0 : brk Q = 8 → ∀ G', RB x i G' H → K G' H) (k1 : brk Q < 8 → ∀ G' H', RR x (i + 1) (i + 1) q s M ((o, 0) :: Q) G' H' → K G' H') : w_217 y G H K := by
  obtain ⟨r1, r2, r3, r4⟩ := RR_c hx h
  have hb := h.2.2.2.2.2.2.1
  unfold w_217
  rw [h.2.2.2.2.2.1]
  by_cases c : 8 ≤ brk Q
  · refine am_ifp (show (8 : Int32) ≤ nI (brk Q) from nI_le (a := 8) c (by omega)) (q212f h (fun G' g => ?_))
    have g19 := g.2.1
    rw [g19]
    exact am_ifn (by decide) (k0 (by omega) G' g)
  · refine am_ifn (show ¬ (8 : Int32) ≤ nI (brk Q) from nI_ge (b := 8) (by omega) (by decide)) (q212t hx h hi (fun G' H' g => ?_))
    obtain ⟨t, f1, h3, h4, h5, h6, h7, h8, h9, h10, h11, h12, h13⟩ := g
    obtain ⟨a1, a2, a3, a4, a5, a6⟩ := h8
    rw [h4]
    refine am_ifp rfl ?_
    have el : ((o, 0) :: Q).length = Q.length + 1 := rfl
    have ew : wtP ((o, 0) :: Q) = (if ao (o, 0) = true then 0 else 1) + wtP Q := rfl
    have ew2 : wtP ((o, 0) :: Q) ≤ 1 + wtP Q := by
      rw [ew]
      split <;> omega
    have eb : brk ((o, 0) :: Q) = brk Q + 1 := by
      show (if 31 ≤ o then 1 else 0) + brk Q = brk Q + 1
      rw [if_pos (by omega), Nat.add_comm]
    unfold w_215
    rw [show am_u G' 66 30 (G' 66 30 + 1) 66 29 = nI Q.length by rw [uu_n (by decide)]; exact a2]
    refine ⟨nb_gd (by omega) (by decide), nb_gd (by omega) (by decide), ?_⟩
    rw [nI_clamp (by omega : Q.length < 2 ^ 31), ← nI_succ, h6, ← nI_succ]
    refine k1 (by omega) _ H' ⟨RTk_cg t (fun k k1 k2 => ?_), ⟨fun c c1 c2 c3 c4 c5 => ?_, fun k hk => ?_, f1.2.2.1, f1.2.2.2⟩, h3, ?_, ?_, ?_, by omega, ⟨?_, ?_, ⟨?_, ?_, ?_⟩, by omega, by omega, fun y hy => ?_⟩, fun k hk => ?_, fun y hy ay => ?_, by omega, by omega, by omega⟩
    · rw [uu_n (by omega), uu_c (by decide), uu_c (by decide), uu_n (by omega)]
    · rw [uu_h c1, uu_h c5, uu_h c4, uu_h c1]; exact f1.1 c c1 c2 c3 c4 c5
    · rw [uu_n (by unfold s66 at hk; omega), uu_c (by decide), uu_c (by decide), uu_n (by unfold s66 at hk; omega)]; exact f1.2.1 k hk
    · rw [uu_n (by decide), uu_c (by decide), uu_c (by decide), uu_n (by decide)]; exact h4
    · rw [uu_n (by decide), uu_c (by decide), uu_c (by decide), uu_n (by decide)]; exact h5
    · rw [uu_n (by decide), uu_c (by decide), uu_c (by decide), uu_e, eb]
    · rw [uu_n (by decide), uu_c (by decide), uu_c (by decide), uu_n (by decide)]; exact a1
    · rw [uu_e, el]
    · rw [uu_c (by decide), uu_c (by decide), uu_e]; exact ey
    · rw [uu_c (by decide), uu_e]; rfl
    · refine PIL_cg a3 (fun k hk => ⟨?_, ?_⟩)
      · rw [uu_c (by decide), uu_c (by decide), uu_n (by omega), uu_c (by decide)]
      · rw [uu_c (by decide), uu_n (by omega), uu_c (by decide), uu_c (by decide)]
    · rcases List.mem_cons.mp hy with e | e
      · rw [e]; exact ⟨by show 20 ≤ o; omega, by show o ≤ 32; omega, by show 0 < 400; decide⟩
      · exact a6 y e
    · rw [uu_c (by decide), uu_c (by decide), uu_c (by decide), uu_c (by decide), uu_c (by decide), uu_c (by decide), uu_c (by decide), uu_c (by decide)]; exact h9 k hk
    · rcases List.mem_cons.mp hy with e | e
      · rw [e] at ay
        have := of_decide_eq_true ay
        have : o = 29 ∨ o = 30 := this
        omega
      · exact h10 y e ay
/-- a bracket is closed -/
theorem RR_cl {x : TX} {i e q s o a : Nat} {M : Nat → Nat × Nat} {Q : List (Nat × Nat)} {G : am_I} {H : am_J} (h : RR x i e q s M ((o, a) :: Q) G H) (ho : 31 ≤ o) : RR x i e q s M Q (am_u (am_u G 66 29 (G 66 29 - 1)) 66 30 (G 66 30 - 1)) H := by
  obtain ⟨t, f1, h3, h4, h5, h6, h7, h8, h9, h10, h11, h12, h13⟩ := h
  obtain ⟨a1, a2, a3, a4, a5, a6⟩ := h8
  have el : ((o, a) :: Q).length = Q.length + 1 := rfl
  have ew : wtP ((o, a) :: Q) = (if ao (o, a) = true then 0 else 1) + wtP Q := rfl
  have ew2 : wtP Q ≤ wtP ((o, a) :: Q) := by
    rw [ew]
    omega
  have eb : brk ((o, a) :: Q) = brk Q + 1 := by
    show (if 31 ≤ o then 1 else 0) + brk Q = brk Q + 1
    rw [if_pos (by omega), Nat.add_comm]
  refine ⟨RTk_cg t (fun k k1 k2 => ?_), ⟨fun c c1 c2 c3 c4 c5 => ?_, fun k hk => ?_, f1.2.2.1, f1.2.2.2⟩, h3, ?_, ?_, ?_, by omega, ⟨?_, ?_, ?_, by omega, by omega, fun y hy => a6 y (List.mem_cons_of_mem _ hy)⟩, fun k hk => ?_, fun y hy ay => h10 y (List.mem_cons_of_mem _ hy) ay, by omega, by omega, h13⟩
  · rw [uu_n (by omega), uu_n (by omega)]
  · rw [uu_h c1, uu_h c1]; exact f1.1 c c1 c2 c3 c4 c5
  · rw [uu_n (by unfold s66 at hk; omega), uu_n (by unfold s66 at hk; omega)]; exact f1.2.1 k hk
  · rw [uu_n (by decide), uu_n (by decide)]; exact h4
  · rw [uu_n (by decide), uu_n (by decide)]; exact h5
  · rw [uu_e, h6, eb]; exact nI_sub (a := brk Q + 1) (c := 1) (by omega)
  · rw [uu_n (by decide), uu_n (by decide)]; exact a1
  · rw [uu_n (by decide), uu_e, a2, el]; exact nI_sub (a := Q.length + 1) (c := 1) (by omega)
  · rw [uu_h (by decide), uu_h (by decide), uu_h (by decide), uu_h (by decide)]; exact a3.2.2
  · rw [uu_c (by decide), uu_c (by decide), uu_c (by decide), uu_c (by decide)]; exact h9 k hk
/-- one more leaf -/
theorem RR_q {x : TX} {i e q s : Nat} {M : Nat → Nat × Nat} {Q : List (Nat × Nat)} {G : am_I} {H : am_J} (h : RR x i e q s M Q G H) (hq : q < 50) : RR x i e (q + 1) s M Q (am_u G 66 26 (G 66 26 + 1)) H := by
  obtain ⟨t, f1, h3, h4, h5, h6, h7, h8, h9, h10, h11, h12, h13⟩ := h
  obtain ⟨a1, a2, a3, a4⟩ := h8
  refine ⟨RTk_cg t (fun k k1 k2 => ?_), ⟨fun c c1 c2 c3 c4 c5 => ?_, fun k hk => ?_, f1.2.2.1, f1.2.2.2⟩, by omega, ?_, ?_, ?_, h7, ⟨?_, ?_, ?_, a4⟩, fun k hk => ?_, h10, h11, h12, h13⟩
  · rw [uu_n (by omega)]
  · rw [uu_h c1]; exact f1.1 c c1 c2 c3 c4 c5
  · rw [uu_n (by unfold s66 at hk; omega)]; exact f1.2.1 k hk
  · rw [uu_n (by decide)]; exact h4
  · rw [uu_e, h5]; exact (nI_succ q).symm
  · rw [uu_n (by decide)]; exact h6
  · rw [uu_n (by decide)]; exact a1
  · rw [uu_n (by decide)]; exact a2
  · rw [uu_h (by decide), uu_h (by decide)]; exact a3
  · rw [uu_c (by decide), uu_c (by decide)]; exact h9 k hk
/-- what a leaf becomes: its number is set afterwards -/
theorem RR_a {x : TX} {i e q s o w w' : Nat} {M : Nat → Nat × Nat} {Q : List (Nat × Nat)} {G : am_I} {H : am_J} {v : Int32} (h : RR x i e q (s + 1) (up2 M s (o, w)) Q G H) (ho : o = 2 ∨ o = 3) (ev : v = nI (rpa o w')) : RR x i e q (s + 1) (up2 M s (o, w')) Q (am_u G 78 s v) H := by
  obtain ⟨t, f1, h3, h4, h5, h6, h7, h8, h9, h10, h11, h12, h13⟩ := h
  obtain ⟨a1, a2, a3, a4⟩ := h8
  refine ⟨RTk_cg t (fun k k1 k2 => ?_), ⟨fun c c1 c2 c3 c4 c5 => ?_, fun k hk => ?_, f1.2.2.1, f1.2.2.2⟩, h3, ?_, ?_, ?_, h7, ⟨?_, ?_, ?_, a4⟩, fun k hk => ?_, fun y hy ay => ?_, h11, h12, h13⟩
  · rw [uu_c (by decide)]
  · rw [uu_h c3]; exact f1.1 c c1 c2 c3 c4 c5
  · rw [uu_c (by decide)]; exact f1.2.1 k hk
  · rw [uu_c (by decide)]; exact h4
  · rw [uu_c (by decide)]; exact h5
  · rw [uu_c (by decide)]; exact h6
  · rw [uu_c (by decide)]; exact a1
  · rw [uu_c (by decide)]; exact a2
  · rw [uu_h (by decide), uu_h (by decide)]; exact a3
  · obtain ⟨d1, d2⟩ := h9 k hk
    rw [uu_c (by decide)]
    by_cases c : k = s
    · rw [c] at d1 ⊢
      rw [up2_e] at d1 ⊢
      rw [uu_e]
      refine ⟨?_, ev⟩
      rw [d1]
      rcases ho with rfl | rfl
      · rfl
      · rfl
    · rw [uu_n c, up2_n c]
      rw [up2_n c] at d1 d2
      exact ⟨d1, d2⟩
  · obtain ⟨b1', b2⟩ := h10 y hy ay
    refine ⟨b1', ?_⟩
    by_cases c : y.2 = s
    · rw [c, up2_e] at b2
      have : o = 13 ∨ o = 14 := b2
      omega
    · rw [up2_n c] at b2 ⊢
      exact b2
theorem RB_78 {x : TX} {j k : Nat} {G : am_I} {H : am_J} {v : Int32} (h : RB x j G H) : RB x j (am_u G 78 k v) H := by
  obtain ⟨f1, h1, h2, h3, s, Q, a1, a2, a3, a4⟩ := h
  refine ⟨⟨fun c c1 c2 c3 c4 c5 => ?_, fun k hk k18 => ?_, f1.2.2.1, f1.2.2.2⟩, ?_, ?_, h3, s, Q, ?_, ?_, ?_, a4⟩
  · rw [uu_h c3]; exact f1.1 c c1 c2 c3 c4 c5
  · rw [uu_c (by decide)]; exact f1.2.1 k hk k18
  · rw [uu_c (by decide)]; exact h1
  · rw [uu_c (by decide)]; exact h2
  · rw [uu_c (by decide)]; exact a1
  · rw [uu_c (by decide)]; exact a2
  · rw [uu_h (by decide), uu_h (by decide)]; exact a3
/-- a leaf -/
theorem q221 {x : TX} {i q s o w : Nat} {M : Nat → Nat × Nat} {Q : List (Nat × Nat)} {G : am_I} {H : am_J} {K : am_I → am_J → Prop} {y1 y2 : Int32} {p : Prop} {dp : Decidable p} (hx : XOK x) (h : RR x i i q s M Q G H) (hp : p → i < (xR x).length) (e1 : p → y1 = nI (rpo (!(xw x)) o w)) (e2 : p → y2 = nI (rpa o w)) (k0 : ¬ p ∨ 50 ≤ q → ∀ G', RB x i G' H → K G' H) (k1 : p → q < 50 → ∀ G' H', RR x (i + 1) (i + 1) (q + 1) (s + 1) (up2 M s (o, w)) Q G' H' → K G' H') : w_221 (b1 (decide p)) y1 y2 G H K := by
  obtain ⟨r1, r2, r3, r4⟩ := RR_c hx h
  have q5 := h.2.2.1
  unfold w_221
  refine ifd (fun c => ?_) (fun c => ?_)
  · refine q212f h (fun G' g => ?_)
    rw [g.2.1]
    exact am_ifn (by decide) (k0 (Or.inl c) G' g)
  · have pi := hp c
    rw [h.2.2.2.2.1]
    by_cases d : 50 ≤ q
    · refine am_ifp (show (50 : Int32) ≤ nI q from nI_le (a := 50) d (by omega)) (q212f h (fun G' g => ?_))
      rw [g.2.1]
      exact am_ifn (by decide) (k0 (Or.inr d) G' g)
    · refine am_ifn (show ¬ (50 : Int32) ≤ nI q from nI_ge (b := 50) (by omega) (by decide)) (q212t hx h pi (fun G' H' g => ?_))
      rw [g.2.2.2.1]
      refine am_ifp rfl (q222 g (by omega) (e1 c) (e2 c) (fun G2 g26 g2 => ?_))
      exact k1 c (by omega) _ H' (RR_q g2 (by omega))
