/-! the class reads a text -/
def tkL (b : Nat → Nat) (z : Nat) : List (Nat × Nat) := tls b z 400 0
def tkC (b : Nat → Nat) (z k : Nat) : Nat := ((tkL b z ++ [(z, 3000000)]).getD k (0, 0)).2
def tkS (b : Nat → Nat) (z k : Nat) : Nat := ((tkL b z ++ [(z, 3000000)]).getD k (0, 0)).1
theorem TS_of {b : Nat → Nat} {z : Nat} (hz : z ≤ 400) (hb : ∀ k, k < z → b k < 256) (hl : (tkL b z).length ≤ 400) : TS b z (tkL b z) (tkC b z) (tkS b z) := by
  refine ⟨hz, hl, hb, ⟨400, by omega, rfl⟩, fun k hk => ?_, ?_, ?_⟩
  · show (tkL b z).getD k (0, 0) = (((tkL b z ++ [(z, 3000000)]).getD k (0, 0)).1, ((tkL b z ++ [(z, 3000000)]).getD k (0, 0)).2)
    rw [gd_l _ _ hk]
  · show ((tkL b z ++ [(z, 3000000)]).getD (tkL b z).length (0, 0)).1 = z
    rw [gd_e]
  · show ((tkL b z ++ [(z, 3000000)]).getD (tkL b z).length (0, 0)).2 = 3000000
    rw [gd_e]
/-- what a reading may change -/
def frK (I G : am_I) : Prop := (∀ c, c ≠ 14 → c ≠ 16 → c ≠ 17 → c ≠ 18 → c ≠ 19 → c ≠ 20 → c ≠ 21 → c ≠ 22 → G c = I c) ∧ (∀ k, k ≠ 1 → k ≠ 2 → k ≠ 4 → k ≠ 7 → k ≠ 8 → k ≠ 9 → G 14 k = I 14 k) ∧ ∀ k, k ≠ 1 → k ≠ 2 → G 16 k = I 16 k
theorem q39 {I : am_I} {b : Nat → Nat} {z : Nat} {law : Bool} {CL : (Nat → Nat) → Nat → Nat → Rc} {w : am_I → (Int32 → am_I → Prop) → Prop} {K : Int32 → am_I → Prop} {x0 : Int32} (ex : x0 = b1 law) (h : BY I b z) (hw : ∀ n C B, CCL n C law B (CL C) w) (hsel : (law = true ∧ w = w_55) ∨ (law = false ∧ w = w_72)) (hF : (tkL b z).length ≤ 400 → ∀ j, txP (tkC b z) (CL (tkC b z)) 12 0 0 = (j, none) → ∀ G, frK I G → G 14 1 = 0 → G 14 2 = nI (tkS b z j) → j ≤ (tkL b z).length → K 0 G) (hS : (tkL b z).length ≤ 400 → ∀ j l, txP (tkC b z) (CL (tkC b z)) 12 0 0 = (j, some l) → ∀ mk s M G, frK I G → G 14 1 = 0 → G 14 2 = -1 → s ≤ 400 → G 16 1 = nI s → (∀ k, k < s → G 17 k = nI ((M k).1 + 16 * (M k).2)) → TXd law l s M mk G → K 1 G) : w_39 x0 I K := by
  rw [ex]
  unfold w_39
  refine q40 (f := 400) rfl (R := tkL b z) rfl h (fun I1 g1 g2 hl => ?_)
  have ts := TS_of h.1 (fun k hk => (h.2.2 k hk).1) hl
  have ln : (tkL b z ++ [(z, 3000000)]).length = (tkL b z).length + 1 := ln1 _ _
  have g21 : ∀ k, k ≤ (tkL b z).length → I1 21 k = nI (tkC b z k) ∧ I1 22 k = nI (tkS b z k) := fun k hk => ⟨(g2 k (by omega)).2, (g2 k (by omega)).1⟩
  refine ⟨by cases law <;> decide, ?_⟩
  unfold w_54
  refine ⟨14, ?_⟩
  have e0 : CS (tkL b z).length (tkC b z) law (am_u (am_u (am_u (am_u (am_u (am_u I1 14 4 (b1 law)) 14 9 0) 14 7 0) 14 8 (I1 21 0)) 16 1 0) 16 2 0) [] (fun _ _ => 0) 0 0 0 (fun _ => (0, 0)) (am_u (am_u (am_u (am_u (am_u (am_u I1 14 4 (b1 law)) 14 9 0) 14 7 0) 14 8 (I1 21 0)) 16 1 0) 16 2 0) := by
    refine ⟨⟨Nat.zero_le _, by decide, by decide, ⟨fun _ _ _ _ => rfl, fun _ _ _ _ => rfl, fun _ _ => rfl⟩, ?_, ?_, ?_, ?_, fun k hk => absurd hk (Nat.not_lt_zero _)⟩, ⟨hl, fun k hk => ?_, ts.2.2.2.2.2.2, fun k hk => (TS_lt ts k hk).2, ?_⟩, ⟨fun _ _ _ _ _ _ _ => rfl, fun _ _ _ _ => rfl, fun _ _ _ => rfl⟩, ⟨by show 0 ≤ 12; decide, uu_e, fun c cl e => absurd (gixl e) (Nat.not_lt_zero _), fun k hk => absurd hk (Nat.not_lt_zero _)⟩, Nat.le_refl _⟩
    · rw [uu_c (by decide), uu_c (by decide), uu_n (by decide), uu_e]; rfl
    · rw [uu_c (by decide), uu_c (by decide), uu_e]; exact (g21 0 (Nat.zero_le _)).1
    · rw [uu_c (by decide), uu_c (by decide), uu_n (by decide), uu_n (by decide), uu_e]; rfl
    · rw [uu_n (by decide), uu_e]; rfl
    · rw [uu_c (by decide), uu_c (by decide), uu_c (by decide), uu_c (by decide), uu_c (by decide), uu_c (by decide)]; exact (g21 k hk).1
    · rw [uu_c (by decide), uu_c (by decide), uu_n (by decide), uu_n (by decide), uu_n (by decide), uu_e]
  have fr : ∀ G, frD (am_u (am_u (am_u (am_u (am_u (am_u I1 14 4 (b1 law)) 14 9 0) 14 7 0) 14 8 (I1 21 0)) 16 1 0) 16 2 0) G → ∀ y, frK I (am_u (am_u G 14 2 y) 14 1 0) ∧ G 22 = I1 22 := by
    intro G g y
    refine ⟨⟨fun c c1 c2 c3 c4 c5 c6 c7 c8 => ?_, fun k k1 k2 k3 k4 k5 k6 => ?_, fun k k1 k2 => ?_⟩, ?_⟩
    · rw [uu_h c1, uu_h c1, g.1 c c1 c2 c3 c4 c5 c6, uu_h c2, uu_h c2, uu_h c1, uu_h c1, uu_h c1, uu_h c1]; exact g1 c c7 c8
    · rw [uu_n k1, uu_n k2, g.2.1 k k4 k5 k6, uu_c (by decide), uu_c (by decide), uu_n k5, uu_n k4, uu_n k6, uu_n k3, g1 14 (by decide) (by decide)]
    · rw [uu_c (by decide), uu_c (by decide), g.2.2 k k1 k2, uu_n k2, uu_n k1, uu_c (by decide), uu_c (by decide), uu_c (by decide), uu_c (by decide), g1 16 (by decide) (by decide)]
    · rw [g.1 22 (by decide) (by decide) (by decide) (by decide) (by decide) (by decide), uu_h (by decide), uu_h (by decide), uu_h (by decide), uu_h (by decide), uu_h (by decide), uu_h (by decide)]
  have lp := l39 (E := fun o19 _ _ I22 => if o19 = 0 then ¬ ((I22 14 7) < 0 ∨ 401 ≤ Int32.toNatClampNeg (I22 14 7)) ∧ (o19 = 0 ∨ o19 = 1) ∧ K o19 (am_u (am_u I22 14 2 (I22 22 (Int32.toNatClampNeg (I22 14 7)))) 14 1 0) else (o19 = 0 ∨ o19 = 1) ∧ K o19 (am_u (am_u I22 14 2 (-1)) 14 1 0)) (hw (tkL b z).length (tkC b z) _) hsel 12 [] _ 0 0 0 _ _ rfl e0 (fun j e v v' G g => ?_) (fun j l e mk q s M G v v' g => ?_)
  · exact lp
  · obtain ⟨c1, c2, c3⟩ := g
    obtain ⟨f1, f2⟩ := fr G c2 (nI (tkS b z j))
    refine am_ifp rfl ⟨nb_gdx c3 (by omega) (by decide), Or.inl rfl, ?_⟩
    rw [nb_cl c3 (by omega), f2, (g21 j c1).2]
    exact hF hl j e _ f1 uu_e (by rw [uu_n (by decide), uu_e]) c1
  · refine am_ifn (by decide) ⟨Or.inr rfl, ?_⟩
    obtain ⟨f1, f2⟩ := fr G g.2.2.1 (-1)
    obtain ⟨r1, r2, r3, r4, r5, r6, r7, r8, r9⟩ := g.1
    obtain ⟨t1, t2, t3, t4⟩ := g.2.2.2.1
    refine hS hl j l e mk s M _ f1 uu_e (by rw [uu_n (by decide), uu_e]) r3 (by rw [uu_c (by decide), uu_c (by decide)]; exact r8) (fun k hk => by rw [uu_c (by decide), uu_c (by decide)]; exact r9 k hk) ⟨t1, by rw [uu_c (by decide), uu_c (by decide)]; exact t2, fun c cl e => ?_, t4⟩
    obtain ⟨a1, a2, a3, a4, a5, a6, a7⟩ := t3 c cl e
    exact ⟨a1, a2, a3, by rw [uu_c (by decide), uu_c (by decide)]; exact a4, by rw [uu_c (by decide), uu_c (by decide)]; exact a5, fun i hi => ⟨by rw [uu_c (by decide), uu_c (by decide)]; exact (a6 i hi).1, (a6 i hi).2⟩, a7⟩
