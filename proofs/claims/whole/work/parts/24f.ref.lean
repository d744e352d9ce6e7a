/-! the reference reads: its state, its small steps -/
def s66 (k : Nat) : Prop := (14 ≤ k ∧ k ≤ 16) ∨ k = 19 ∨ k = 23 ∨ k = 26 ∨ (29 ≤ k ∧ k ≤ 30)
def frRx (B G : am_I) (LB H : am_J) : Prop := (∀ c, c ≠ 66 → c ≠ 77 → c ≠ 78 → c ≠ 79 → c ≠ 80 → G c = B c) ∧ (∀ k, ¬ s66 k → G 66 k = B 66 k) ∧ (∀ c, c ≠ 66 → H c = LB c) ∧ ∀ k, k ≠ 17 → H 66 k = LB 66 k
/-- and where it failed: its place too -/
def frRb (B G : am_I) (LB H : am_J) : Prop := (∀ c, c ≠ 66 → c ≠ 77 → c ≠ 78 → c ≠ 79 → c ≠ 80 → G c = B c) ∧ (∀ k, ¬ s66 k → k ≠ 18 → G 66 k = B 66 k) ∧ (∀ c, c ≠ 66 → H c = LB c) ∧ ∀ k, k ≠ 17 → H 66 k = LB 66 k
/-- a text: bytes, size, tokens, their numbers and starts; as law; what was ahead -/
abbrev TX : Type := (Nat → Nat) × Nat × List (Nat × Nat) × (Nat → Nat) × (Nat → Nat) × Bool × am_I × am_J
abbrev xb (x : TX) : Nat → Nat := x.1
abbrev xz (x : TX) : Nat := x.2.1
abbrev xR (x : TX) : List (Nat × Nat) := x.2.2.1
abbrev xC (x : TX) : Nat → Nat := x.2.2.2.1
abbrev xS (x : TX) : Nat → Nat := x.2.2.2.2.1
abbrev xw (x : TX) : Bool := x.2.2.2.2.2.1
abbrev xB (x : TX) : am_I := x.2.2.2.2.2.2.1
abbrev xL (x : TX) : am_J := x.2.2.2.2.2.2.2
def XOK (x : TX) : Prop := TS (xb x) (xz x) (xR x) (xC x) (xS x) ∧ BYr (xB x) (xb x) (xz x) ∧ xB x 66 20 = b1 (!(xw x)) ∧ LWr (xL x)
def RR (x : TX) (i e q s : Nat) (M : Nat → Nat × Nat) (Q : List (Nat × Nat)) (G : am_I) (H : am_J) : Prop := RTk (xb x) (xz x) (xR x) (xC x) (xS x) i G H ∧ frRx (xB x) G (xL x) H ∧ q ≤ 50 ∧ G 66 19 = 0 ∧ G 66 26 = nI q ∧ G 66 30 = nI (brk Q) ∧ brk Q ≤ 8 ∧ SB G Q s ∧ CDr (xw x) G M s ∧ okJ M s Q ∧ s + wtP Q ≤ e ∧ Q.length ≤ e ∧ e ≤ 400
def RB (x : TX) (j : Nat) (G : am_I) (H : am_J) : Prop := frRb (xB x) G (xL x) H ∧ G 66 19 = 1 ∧ G 66 18 = nI (xS x j) ∧ j ≤ (xR x).length ∧ ∃ s Q, SB G Q s
theorem RTk_cg {x : TX} {i : Nat} {G G' : am_I} {H : am_J} (h : RTk (xb x) (xz x) (xR x) (xC x) (xS x) i G H) (e : ∀ k, 14 ≤ k → k ≤ 16 → G' 66 k = G 66 k) : RTk (xb x) (xz x) (xR x) (xC x) (xS x) i G' H := by
  obtain ⟨h1, h2, h3, h4, p, h5, h6, h7⟩ := h
  exact ⟨h1, (e 14 (by decide) (by decide)).trans h2, (e 16 (by decide) (by decide)).trans h3, h4, p, h5, (e 15 (by decide) (by decide)).trans h6, h7⟩
theorem RR_c {x : TX} {i e q s : Nat} {M : Nat → Nat × Nat} {Q : List (Nat × Nat)} {G : am_I} {H : am_J} (hx : XOK x) (h : RR x i e q s M Q G H) : xC x i ≤ 3000000 ∧ i ≤ (xR x).length ∧ (xC x i ≠ 3000000 → i < (xR x).length) ∧ (xR x).length ≤ 400 := by
  have hi := h.1.1
  refine ⟨(TS_le hx.1 i hi).2, hi, fun c => ?_, hx.1.2.1⟩
  by_cases e : i = (xR x).length
  · exact absurd (by rw [e]; exact hx.1.2.2.2.2.2.2) c
  · omega
theorem qnx {x : TX} {i e q s : Nat} {M : Nat → Nat × Nat} {Q : List (Nat × Nat)} {G : am_I} {H : am_J} {K : am_I → am_J → Prop} (hx : XOK x) (h : RR x i e q s M Q G H) (hi : i < (xR x).length) (hK : ∀ G' H', RR x (i + 1) e q s M Q G' H' → K G' H') : w_207 G H K := by
  obtain ⟨⟨t1, t2, t3, t4, p, t5, t6, t7⟩, f1, h3, h4, h5, h6, h7, h8, h9, h10, h11, h12, h13⟩ := h
  obtain ⟨x1, x2, x3, x4⟩ := hx
  have by' : BYr G (xb x) (xz x) := ⟨x2.1, by rw [f1.2.1 13 (by unfold s66; omega)]; exact x2.2.1, fun k hk => by rw [f1.1 75 (by decide) (by decide) (by decide) (by decide) (by decide)]; exact x2.2.2 k hk⟩
  refine q207n x1 by' (by omega) t5 t6 t7 (fun G' H' hf ht => hK G' H' ⟨ht, ⟨fun c c1 c2 c3 c4 c5 => ?_, fun k hk => ?_, fun c hc => ?_, fun k hk => ?_⟩, h3, ?_, ?_, ?_, h7, ?_, fun k hk => ?_, h10, h11, h12, h13⟩)
  · rw [hf.1 c c1]; exact f1.1 c c1 c2 c3 c4 c5
  · rw [hf.2.1 k (by unfold s66 at hk; omega) (by unfold s66 at hk; omega) (by unfold s66 at hk; omega)]; exact f1.2.1 k hk
  · rw [hf.2.2.1 c hc]; exact f1.2.2.1 c hc
  · rw [hf.2.2.2 k hk]; exact f1.2.2.2 k hk
  · rw [hf.2.1 19 (by decide) (by decide) (by decide)]; exact h4
  · rw [hf.2.1 26 (by decide) (by decide) (by decide)]; exact h5
  · rw [hf.2.1 30 (by decide) (by decide) (by decide)]; exact h6
  · obtain ⟨a1, a2, a3, a4⟩ := h8
    exact ⟨by rw [hf.2.1 23 (by decide) (by decide) (by decide)]; exact a1, by rw [hf.2.1 29 (by decide) (by decide) (by decide)]; exact a2, by rw [hf.1 79 (by decide), hf.1 80 (by decide)]; exact a3, a4⟩
  · rw [hf.1 77 (by decide), hf.1 78 (by decide)]; exact h9 k hk
theorem q212t {x : TX} {i e q s : Nat} {M : Nat → Nat × Nat} {Q : List (Nat × Nat)} {G : am_I} {H : am_J} {K : am_I → am_J → Prop} (hx : XOK x) (h : RR x i e q s M Q G H) (hi : i < (xR x).length) (hK : ∀ G' H', RR x (i + 1) e q s M Q G' H' → K G' H') : w_212 1 G H K := by
  unfold w_212
  rw [h.2.2.2.1, if_pos rfl, if_neg (by decide), if_pos rfl]
  exact qnx hx h hi hK
theorem q212f {x : TX} {i e q s : Nat} {M : Nat → Nat × Nat} {Q : List (Nat × Nat)} {G : am_I} {H : am_J} {K : am_I → am_J → Prop} (h : RR x i e q s M Q G H) (hK : ∀ G', RB x i G' H → K G' H) : w_212 0 G H K := by
  unfold w_212
  rw [h.2.2.2.1, if_pos rfl, if_pos rfl]
  refine am_ifn (by decide) ?_
  obtain ⟨⟨t1, t2, t3, t4, p, t5, t6, t7⟩, f1, h3, h4, h5, h6, h7, h8, h9, h10, h11, h12, h13⟩ := h
  obtain ⟨a1, a2, a3, a4⟩ := h8
  refine hK _ ⟨⟨fun c c1 c2 c3 c4 c5 => ?_, fun k hk k18 => ?_, f1.2.2.1, f1.2.2.2⟩, ?_, ?_, t1, s, Q, ?_, ?_, ?_, a4⟩
  · rw [uu_h c1, uu_h c1]; exact f1.1 c c1 c2 c3 c4 c5
  · rw [uu_n (by unfold s66 at hk; omega), uu_n (by unfold s66 at hk; omega)]; exact f1.2.1 k hk
  · rw [uu_n (by decide), uu_e]
  · rw [uu_e]; exact t2
  · rw [uu_n (by decide), uu_n (by decide)]; exact a1
  · rw [uu_n (by decide), uu_n (by decide)]; exact a2
  · rw [uu_h (by decide), uu_h (by decide), uu_h (by decide), uu_h (by decide)]; exact a3
theorem q212 {x : TX} {i e q s : Nat} {M : Nat → Nat × Nat} {Q : List (Nat × Nat)} {G : am_I} {H : am_J} {K : am_I → am_J → Prop} {p : Prop} {dp : Decidable p} (hx : XOK x) (h : RR x i e q s M Q G H) (hp : p → i < (xR x).length) (k0 : ¬ p → ∀ G', RB x i G' H → K G' H) (k1 : p → ∀ G' H', RR x (i + 1) e q s M Q G' H' → K G' H') : w_212 (b1 (decide p)) G H K := by
  by_cases c : p
  · rw [decide_eq_true c]
    exact q212t hx h (hp c) (k1 c)
  · rw [decide_eq_false c]
    exact q212f h (k0 c)
theorem q215 {x : TX} {i e q s o a : Nat} {M : Nat → Nat × Nat} {Q : List (Nat × Nat)} {G : am_I} {H : am_J} {K : am_I → Prop} (h : RR x i e q s M Q G H) (he : e < 400) (ho : 20 ≤ o) (ho2 : o ≤ 30) (ha : a < 400) (hj : (o = 29 ∨ o = 30) → a < s ∧ ((M a).1 = 13 ∨ (M a).1 = 14)) (hK : ∀ G', RR x i (e + 1) q s M ((o, a) :: Q) G' H → K G') : w_215 (nI o) (nI a) G K := by
  obtain ⟨t, f1, h3, h4, h5, h6, h7, h8, h9, h10, h11, h12, h13⟩ := h
  obtain ⟨a1, a2, a3, a4, a5, a6⟩ := h8
  have el : ((o, a) :: Q).length = Q.length + 1 := rfl
  have ew : wtP ((o, a) :: Q) = (if ao (o, a) = true then 0 else 1) + wtP Q := rfl
  have ew2 : wtP ((o, a) :: Q) ≤ 1 + wtP Q := by
    rw [ew]
    split <;> omega
  have eb : brk ((o, a) :: Q) = brk Q := by
    show (if 31 ≤ o then 1 else 0) + brk Q = brk Q
    rw [if_neg (by omega), Nat.zero_add]
  unfold w_215
  rw [a2]
  refine ⟨nb_gd (by omega) (by decide), nb_gd (by omega) (by decide), ?_⟩
  rw [nI_clamp (by omega : Q.length < 2 ^ 31), ← nI_succ]
  refine hK _ ⟨RTk_cg t (fun k k1 k2 => ?_), ⟨fun c c1 c2 c3 c4 c5 => ?_, fun k hk => ?_, f1.2.2.1, f1.2.2.2⟩, h3, ?_, ?_, ?_, by rw [eb]; exact h7, ⟨?_, ?_, ⟨?_, ?_, ?_⟩, by omega, by omega, fun y hy => ?_⟩, fun k hk => ?_, fun y hy ay => ?_, by omega, by omega, by omega⟩
  · rw [uu_n (by omega), uu_c (by decide), uu_c (by decide)]
  · rw [uu_h c1, uu_h c5, uu_h c4]; exact f1.1 c c1 c2 c3 c4 c5
  · rw [uu_n (by unfold s66 at hk; omega), uu_c (by decide), uu_c (by decide)]; exact f1.2.1 k hk
  · rw [uu_n (by decide), uu_c (by decide), uu_c (by decide)]; exact h4
  · rw [uu_n (by decide), uu_c (by decide), uu_c (by decide)]; exact h5
  · rw [uu_n (by decide), uu_c (by decide), uu_c (by decide), eb]; exact h6
  · rw [uu_n (by decide), uu_c (by decide), uu_c (by decide)]; exact a1
  · rw [uu_e, el]
  · rw [uu_c (by decide), uu_c (by decide), uu_e]
  · rw [uu_c (by decide), uu_e]
  · refine PIL_cg a3 (fun k hk => ⟨?_, ?_⟩)
    · rw [uu_c (by decide), uu_c (by decide), uu_n (by omega)]
    · rw [uu_c (by decide), uu_n (by omega), uu_c (by decide)]
  · rcases List.mem_cons.mp hy with e | e
    · rw [e]; exact ⟨ho, by show o ≤ 32; omega, ha⟩
    · exact a6 y e
  · rw [uu_c (by decide), uu_c (by decide), uu_c (by decide), uu_c (by decide), uu_c (by decide), uu_c (by decide)]; exact h9 k hk
  · rcases List.mem_cons.mp hy with e | e
    · rw [e] at ay ⊢
      exact hj (of_decide_eq_true ay)
    · exact h10 y e ay
theorem q222 {x : TX} {i e q s o w : Nat} {M : Nat → Nat × Nat} {Q : List (Nat × Nat)} {G : am_I} {H : am_J} {K : am_I → Prop} {y1 y2 : Int32} (h : RR x i e q s M Q G H) (he : e < 400) (e1 : y1 = nI (rpo (!(xw x)) o w)) (e2 : y2 = nI (rpa o w)) (hK : ∀ G', G' 66 26 = nI q → RR x i (e + 1) q (s + 1) (up2 M s (o, w)) Q G' H → K G') : w_222 y1 y2 G K := by
  obtain ⟨t, f1, h3, h4, h5, h6, h7, h8, h9, h10, h11, h12, h13⟩ := h
  obtain ⟨a1, a2, a3, a4, a5, a6⟩ := h8
  unfold w_222
  rw [a1]
  refine ⟨nb_gd (by omega) (by decide), nb_gd (by omega) (by decide), ?_⟩
  rw [nI_clamp (by omega : s < 2 ^ 31), ← nI_succ]
  have g26 : am_u (am_u (am_u G 77 s y1) 78 s y2) 66 23 (nI (s + 1)) 66 26 = nI q := by rw [uu_n (by decide), uu_c (by decide), uu_c (by decide)]; exact h5
  refine hK _ g26 ⟨RTk_cg t (fun k k1 k2 => ?_), ⟨fun c c1 c2 c3 c4 c5 => ?_, fun k hk => ?_, f1.2.2.1, f1.2.2.2⟩, h3, ?_, g26, ?_, h7, ⟨uu_e, ?_, ?_, by omega, by omega, a6⟩, fun k hk => ?_, fun y hy ay => ?_, by omega, by omega, by omega⟩
  · rw [uu_n (by omega), uu_c (by decide), uu_c (by decide)]
  · rw [uu_h c1, uu_h c3, uu_h c2]; exact f1.1 c c1 c2 c3 c4 c5
  · rw [uu_n (by unfold s66 at hk; omega), uu_c (by decide), uu_c (by decide)]; exact f1.2.1 k hk
  · rw [uu_n (by decide), uu_c (by decide), uu_c (by decide)]; exact h4
  · rw [uu_n (by decide), uu_c (by decide), uu_c (by decide)]; exact h6
  · rw [uu_n (by decide), uu_c (by decide), uu_c (by decide)]; exact a2
  · rw [uu_h (by decide), uu_h (by decide), uu_h (by decide), uu_h (by decide), uu_h (by decide), uu_h (by decide)]; exact a3
  · by_cases e : k = s
    · refine ⟨?_, ?_⟩
      · rw [e, uu_c (by decide), uu_c (by decide), uu_e, up2_e]
        exact e1
      · rw [e, uu_c (by decide), uu_e, up2_e]
        exact e2
    · refine ⟨?_, ?_⟩
      · rw [uu_c (by decide), uu_c (by decide), uu_n e, up2_n e]
        exact (h9 k (by omega)).1
      · rw [uu_c (by decide), uu_n e, uu_c (by decide), up2_n e]
        exact (h9 k (by omega)).2
  · obtain ⟨b1', b2⟩ := h10 y hy ay
    exact ⟨by omega, by rw [up2_n (by omega)]; exact b2⟩
theorem q226s {x : TX} {i e q s lvl : Nat} {M : Nat → Nat × Nat} {A P : List (Nat × Nat)} {G : am_I} {H : am_J} {K : am_I → Prop} (h : RR x i e q s M (A ++ P) G H) (hl : 1 ≤ lvl) (hl2 : lvl ≤ 9) (hP : toplt lvl P) (hA : ∀ y, y ∈ A → lvl ≤ bnN y.1) (hK : ∀ G', RR x i e q (fl A M s).2 (fl A M s).1 P G' H → K G') : w_226 (nI lvl) G K := by
  obtain ⟨t, f1, h3, h4, h5, h6, h7, h8, h9, h10, h11, h12, h13⟩ := h
  unfold w_226
  have eb : brk (A ++ P) = brk P := brk_app A P (fun y hy => bn_br (by have := hA y hy; omega))
  have sz := fl_sz A M s
  have wa := wtP_app A P
  have la : (A ++ P).length = A.length + P.length := List.length_append
  refine ⟨A.length + 1, l226 (law := xw x) (g := true) hl hl2 hP A G M s h8 (fun _ => ⟨h9, h10⟩) hA (fun G' f6 sb cd => hK G' ⟨RTk_cg t (fun k k1 k2 => f6.2 k (by omega) (by omega)), ⟨fun c c1 c2 c3 c4 c5 => ?_, fun k hk => ?_, f1.2.2.1, f1.2.2.2⟩, h3, ?_, ?_, ?_, by omega, sb, (cd rfl).1, (cd rfl).2, by omega, by omega, h13⟩)⟩
  · rw [f6.1 c c1 c2 c3]; exact f1.1 c c1 c2 c3 c4 c5
  · rw [f6.2 k (by unfold s66 at hk; omega) (by unfold s66 at hk; omega)]; exact f1.2.1 k hk
  · rw [f6.2 19 (by decide) (by decide)]; exact h4
  · rw [f6.2 26 (by decide) (by decide)]; exact h5
  · rw [f6.2 30 (by decide) (by decide), ← eb]; exact h6
theorem q226b {x : TX} {j lvl : Nat} {G : am_I} {H : am_J} {K : am_I → Prop} (h : RB x j G H) (hl : 1 ≤ lvl) (hl2 : lvl ≤ 9) (hK : ∀ G', RB x j G' H → K G') : w_226 (nI lvl) G K := by
  obtain ⟨f1, h1, h2, h3, s, Q, h4⟩ := h
  obtain ⟨A, P, e, a1, a2⟩ := spl lvl Q
  rw [e] at h4
  unfold w_226
  refine ⟨A.length + 1, l226 (law := xw x) (g := false) hl hl2 a2 A G (fun _ => (0, 0)) s h4 (fun q => by cases q) a1 (fun G' f6 sb _ => hK G' ⟨⟨fun c c1 c2 c3 c4 c5 => ?_, fun k hk k18 => ?_, f1.2.2.1, f1.2.2.2⟩, ?_, ?_, h3, _, _, sb⟩)⟩
  · rw [f6.1 c c1 c2 c3]; exact f1.1 c c1 c2 c3 c4 c5
  · rw [f6.2 k (by unfold s66 at hk; omega) (by unfold s66 at hk; omega)]; exact f1.2.1 k hk k18
  · rw [f6.2 19 (by decide) (by decide)]; exact h1
  · rw [f6.2 18 (by decide) (by decide)]; exact h2
theorem f211 {x : TX} {i j : Nat} {G : am_I} {H : am_J} {v : Int64} (h : RTk (xb x) (xz x) (xR x) (xC x) (xS x) i G H) (hj : j < 32) (ev : v = lN (WC.getD j 0)) : f_211 v G H = b1 (decide (xC x i = 1000000 + j)) := by
  obtain ⟨h1, h2, h3, h4, _⟩ := h
  obtain ⟨c0, c1, c2, c3⟩ := h4
  unfold f_211
  rw [h3, ev]
  unfold kdT
  by_cases a : xC x i < 1000000
  · rw [if_pos a, if_neg (by decide), decide_eq_false (by omega)]
    rfl
  · rw [if_neg a]
    by_cases b : xC x i < 2000000
    · rw [if_pos b, if_pos (by decide)]
      obtain ⟨d1, d2⟩ := c2 (by omega) b
      by_cases e : xC x i = 1000000 + j
      · rw [if_pos ((lc_eq _ _).mpr ((d2 j hj).mpr e)), decide_eq_true e]
        rfl
      · rw [if_neg (fun q => e ((d2 j hj).mp ((lc_eq _ _).mp q))), decide_eq_false e]
        rfl
    · rw [if_neg b, decide_eq_false (by omega)]
      by_cases c : xC x i < 3000000
      · rw [if_pos c, if_neg (by decide)]
        rfl
      · rw [if_neg c, if_neg (by decide)]
        rfl
theorem f216 {x : TX} {i ch : Nat} {G : am_I} {H : am_J} {v : Int32} (h : RTk (xb x) (xz x) (xR x) (xC x) (xS x) i G H) (hc : ch < 256) (ev : v = nI ch) : f_216 v G H = b1 (decide (xC x i = 2000000 + ch)) := by
  obtain ⟨h1, h2, h3, h4, _⟩ := h
  obtain ⟨c0, c1, c2, c3⟩ := h4
  unfold f_216
  rw [h3, ev, nI_l (by omega)]
  unfold kdT
  by_cases a : xC x i < 1000000
  · rw [if_pos a, if_neg (by decide), decide_eq_false (by omega)]
    rfl
  · rw [if_neg a]
    by_cases b : xC x i < 2000000
    · rw [if_pos b, if_neg (by decide), decide_eq_false (by omega)]
      rfl
    · rw [if_neg b]
      by_cases c : xC x i < 3000000
      · obtain ⟨d1, d2⟩ := c3 (by omega) c
        rw [if_pos c, if_pos (by decide), d2]
        by_cases e : xC x i = 2000000 + ch
        · rw [if_pos ((lc_eq _ _).mpr ((fb_lN_inj (by omega) (by omega)).mpr (by omega))), decide_eq_true e]
          rfl
        · rw [if_neg (fun q => e (by have := (fb_lN_inj (by omega) (by omega)).mp ((lc_eq _ _).mp q); omega)), decide_eq_false e]
          rfl
      · rw [if_neg c, if_neg (by decide), decide_eq_false (by omega)]
        rfl
/-- a number is asked for -/
theorem q223 {x : TX} {i e q s hi : Nat} {M : Nat → Nat × Nat} {Q : List (Nat × Nat)} {G : am_I} {H : am_J} {K : Int32 → am_I → am_J → Prop} {lo : Nat} {y1 y2 : Int64} (hx : XOK x) (h : RR x i e q s M Q G H) (hh : hi ≤ 1000) (hl : lo ≤ hi) (e1 : y1 = lN lo) (e2 : y2 = lN hi) (k0 : ¬ (lo ≤ xC x i ∧ xC x i ≤ hi) → ∀ v G', RB x i G' H → K v G' H) (k1 : lo ≤ xC x i → xC x i ≤ hi → ∀ G' H', RR x (i + 1) e q s M Q G' H' → K (nI (xC x i)) G' H') : w_223 y1 y2 G H K := by
  obtain ⟨r1, r2, r3, r4⟩ := RR_c hx h
  obtain ⟨t1, t2, t3, t4, _⟩ := h.1
  obtain ⟨c0, c1, c2, c3⟩ := t4
  unfold w_223
  rw [t3]
  unfold kdT
  by_cases a : xC x i < 1000000
  · obtain ⟨m, m1, m2, m3⟩ := c1 a
    have wd : f_182 (H 66 17) y1 y2 = b1 (decide (lo ≤ m ∧ m ≤ hi)) := by
      rw [m2, e1, e2, ← nI_l (show m < 2 ^ 31 by omega)]
      exact wid (by omega) (by omega) (by omega)
    rw [if_pos a, if_pos (by decide), wd]
    refine ifd (fun c => ?_) (fun c => ?_)
    · exact q212f h (fun G' g => k0 (by omega) _ G' g)
    · refine q212t hx h (r3 (by omega)) (fun G' H' g => ?_)
      have k := k1 (by omega) (by omega) G' H' g
      rw [m2, lN_i, show m = xC x i by omega]
      exact k
  · rw [if_neg a]
    have nk : ¬ nI (if xC x i < 2000000 then 1 else if xC x i < 3000000 then 3 else 0) = 2 := by
      by_cases b : xC x i < 2000000
      · rw [if_pos b]; decide
      · rw [if_neg b]
        by_cases c : xC x i < 3000000
        · rw [if_pos c]; decide
        · rw [if_neg c]; decide
    rw [if_neg nk]
    exact q212f h (fun G' g => k0 (by omega) _ G' g)
def ow (k : Nat) : Nat := if k = 0 then 23 else 25 + k
theorem lw81 : ∀ k, k < 10 → hl_62 81 k = lN (WC.getD (16 + k) 0) := by decide +kernel
theorem lw82 : ∀ k, k < 7 → hl_62 82 k = lN (WC.getD (ow k) 0) := by decide +kernel
theorem lw83 : ∀ k, k < 4 → hl_62 83 k = lN (WC.getD k 0) := by decide +kernel
theorem ow_lt : ∀ k, k < 7 → ow k < 32 := by decide
theorem l219 {x : TX} {i : Nat} {G : am_I} {H : am_J} {E : Int32 → Int32 → Prop} (h : RTk (xb x) (xz x) (xR x) (xC x) (xS x) i G H) (hL : H 82 = hl_62 82) (hE : ∀ r u, ((∃ k, k < 7 ∧ xC x i = 1000000 + (ow k) ∧ r = nI (k + 1)) ∨ ((∀ k, k < 7 → xC x i ≠ 1000000 + (ow k)) ∧ r = -1)) → E r u) : ∀ m j r, j + m = 7 → ((∃ k, k < j ∧ xC x i = 1000000 + (ow k) ∧ r = nI (k + 1)) ∨ ((∀ k, k < j → xC x i ≠ 1000000 + (ow k)) ∧ r = -1)) → lw_219_4 (m + 1) r (nI j) G H E
  | 0, j, r, hj, hr => by
    have e : j = 7 := by omega
    subst e
    unfold lw_219_4
    rw [if_pos (by decide)]
    exact hE r _ hr
  | m + 1, j, r, hj, hr => by
    unfold lw_219_4
    rw [if_neg (show ¬ (7 : Int32) ≤ nI j from nI_ge (b := 7) (by omega) (by decide))]
    refine ⟨nb_gd (by omega) (by decide), ?_⟩
    rw [nI_clamp (by omega : j < 2 ^ 31), hL, f211 h (ow_lt j (by omega)) (lw82 j (by omega)), ← nI_succ]
    refine ifd (fun c => ?_) (fun c => ?_)
    · refine l219 h hL hE m (j + 1) r (by omega) ?_
      rcases hr with ⟨k, k1, k2, k3⟩ | ⟨k1, k2⟩
      · exact Or.inl ⟨k, by omega, k2, k3⟩
      · refine Or.inr ⟨fun k hk => ?_, k2⟩
        by_cases e : k = j
        · rw [e]; exact c
        · exact k1 k (by omega)
    · refine l219 h hL hE m (j + 1) _ (by omega) (Or.inl ⟨j, by omega, c, rfl⟩)
theorem l220 {x : TX} {i : Nat} {G : am_I} {H : am_J} {E : Int32 → Int32 → Prop} (h : RTk (xb x) (xz x) (xR x) (xC x) (xS x) i G H) (hL : H 81 = hl_62 81) (hE : ∀ r u, ((∃ k, k < 10 ∧ xC x i = 1000000 + (16 + k) ∧ r = nI (k + 1)) ∨ ((∀ k, k < 10 → xC x i ≠ 1000000 + (16 + k)) ∧ r = -1)) → E r u) : ∀ m j r, j + m = 10 → ((∃ k, k < j ∧ xC x i = 1000000 + (16 + k) ∧ r = nI (k + 1)) ∨ ((∀ k, k < j → xC x i ≠ 1000000 + (16 + k)) ∧ r = -1)) → lw_220_4 (m + 1) r (nI j) G H E
  | 0, j, r, hj, hr => by
    have e : j = 10 := by omega
    subst e
    unfold lw_220_4
    rw [if_pos (by decide)]
    exact hE r _ hr
  | m + 1, j, r, hj, hr => by
    unfold lw_220_4
    rw [if_neg (show ¬ (10 : Int32) ≤ nI j from nI_ge (b := 10) (by omega) (by decide))]
    refine ⟨nb_gd (by omega) (by decide), ?_⟩
    rw [nI_clamp (by omega : j < 2 ^ 31), hL, f211 h (by omega) (lw81 j (by omega)), ← nI_succ]
    refine ifd (fun c => ?_) (fun c => ?_)
    · refine l220 h hL hE m (j + 1) r (by omega) ?_
      rcases hr with ⟨k, k1, k2, k3⟩ | ⟨k1, k2⟩
      · exact Or.inl ⟨k, by omega, k2, k3⟩
      · refine Or.inr ⟨fun k hk => ?_, k2⟩
        by_cases e : k = j
        · rw [e]; exact c
        · exact k1 k (by omega)
    · refine l220 h hL hE m (j + 1) _ (by omega) (Or.inl ⟨j, by omega, c, rfl⟩)
theorem l210h {x : TX} {i : Nat} {G : am_I} {H : am_J} {E : Int32 → Int32 → Prop} (h : RTk (xb x) (xz x) (xR x) (xC x) (xS x) i G H) (hL : H 83 = hl_62 83) (hE : ∀ r u, ((∃ k, k < 4 ∧ xC x i = 1000000 + k ∧ r = nI (k)) ∨ ((∀ k, k < 4 → xC x i ≠ 1000000 + k) ∧ r = -1)) → E r u) : ∀ m j r, j + m = 4 → ((∃ k, k < j ∧ xC x i = 1000000 + k ∧ r = nI (k)) ∨ ((∀ k, k < j → xC x i ≠ 1000000 + k) ∧ r = -1)) → lw_210_4 (m + 1) r (nI j) G H E
  | 0, j, r, hj, hr => by
    have e : j = 4 := by omega
    subst e
    unfold lw_210_4
    rw [if_pos (by decide)]
    exact hE r _ hr
  | m + 1, j, r, hj, hr => by
    unfold lw_210_4
    rw [if_neg (show ¬ (4 : Int32) ≤ nI j from nI_ge (b := 4) (by omega) (by decide))]
    refine ⟨nb_gd (by omega) (by decide), ?_⟩
    rw [nI_clamp (by omega : j < 2 ^ 31), hL, f211 h (by omega) (lw83 j (by omega)), ← nI_succ]
    refine ifd (fun c => ?_) (fun c => ?_)
    · refine l210h h hL hE m (j + 1) r (by omega) ?_
      rcases hr with ⟨k, k1, k2, k3⟩ | ⟨k1, k2⟩
      · exact Or.inl ⟨k, by omega, k2, k3⟩
      · refine Or.inr ⟨fun k hk => ?_, k2⟩
        by_cases e : k = j
        · rw [e]; exact c
        · exact k1 k (by omega)
    · refine l210h h hL hE m (j + 1) _ (by omega) (Or.inl ⟨j, by omega, c, rfl⟩)
