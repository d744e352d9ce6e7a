/-! places reached, as a relation; the reference's row of distances -/
def RK (a b : Nat → Nat) (n : Nat) (u : Nat → Prop) (x : Nat) : Nat → Nat → Prop
  | 0, y => y = x
  | k + 1, y => RK a b n u x k y ∨ ∃ d, d < n ∧ u d ∧ (a d = y ∨ b d = y) ∧ (RK a b n u x k (a d) ∨ RK a b n u x k (b d))
theorem RK_cong {a b : Nat → Nat} {n : Nat} {u u' : Nat → Prop} {x : Nat} (h : ∀ d, d < n → (u d ↔ u' d)) : ∀ k y, RK a b n u x k y ↔ RK a b n u' x k y
  | 0, y => Iff.rfl
  | k + 1, y => by
    show (RK a b n u x k y ∨ ∃ d, d < n ∧ u d ∧ (a d = y ∨ b d = y) ∧ (RK a b n u x k (a d) ∨ RK a b n u x k (b d))) ↔ (RK a b n u' x k y ∨ ∃ d, d < n ∧ u' d ∧ (a d = y ∨ b d = y) ∧ (RK a b n u' x k (a d) ∨ RK a b n u' x k (b d)))
    have ih := RK_cong (a := a) (b := b) (x := x) h k
    rw [ih y]
    constructor
    · rintro (g | ⟨d, h1, h2, h3, h4⟩)
      · exact Or.inl g
      · exact Or.inr ⟨d, h1, (h d h1).mp h2, h3, by rw [← ih, ← ih]; exact h4⟩
    · rintro (g | ⟨d, h1, h2, h3, h4⟩)
      · exact Or.inl g
      · exact Or.inr ⟨d, h1, (h d h1).mpr h2, h3, by rw [ih, ih]; exact h4⟩
theorem RK_mono {a b : Nat → Nat} {n : Nat} {u : Nat → Prop} {x y j : Nat} (h : RK a b n u x j y) : ∀ k, RK a b n u x (j + k) y
  | 0 => h
  | k + 1 => Or.inl (RK_mono h k)
theorem RK_le {a b : Nat → Nat} {n : Nat} {u : Nat → Prop} {x y j k : Nat} (hk : j ≤ k) (h : RK a b n u x j y) : RK a b n u x k y := by
  have g := RK_mono h (k - j)
  rw [show j + (k - j) = k by omega] at g
  exact g
theorem bi_1 {w d : Nat} : bi w d = 1 ↔ w.testBit d = true := by
  rw [bi_tb]
  cases w.testBit d <;> simp
theorem odo_tb {A B : Nat → Int32} {a b : Nat → Nat} {U R n : Nat} (hp : ∀ d, d < n → A d = nI (a d) ∧ B d = nI (b d) ∧ a d < 10 ∧ b d < 10) (y : Nat) : ∀ j, j ≤ n → ((odo A B U R j).testBit y = true ↔ (R.testBit y = true ∨ ∃ d, d < j ∧ bi U d = 1 ∧ (a d = y ∨ b d = y) ∧ (R.testBit (a d) = true ∨ R.testBit (b d) = true)))
  | 0, _ => by
    constructor
    · exact fun h => Or.inl h
    · rintro (h | ⟨d, h, _⟩)
      · exact h
      · omega
  | j + 1, hj => by
    have ih := odo_tb (U := U) (R := R) hp y j (by omega)
    obtain ⟨ea, eb, ha, hb⟩ := hp j (by omega)
    have eo : odo A B U R (j + 1) = (if (bi R (a j) = 1 ∨ bi R (b j) = 1) ∧ bi U j = 1 then odo A B U R j ||| (2 ^ (a j) ||| 2 ^ (b j)) else odo A B U R j) := by
      show (if (bi R (Int32.toNatClampNeg (A j)) = 1 ∨ bi R (Int32.toNatClampNeg (B j)) = 1) ∧ bi U j = 1 then odo A B U R j ||| (2 ^ Int32.toNatClampNeg (A j) ||| 2 ^ Int32.toNatClampNeg (B j)) else odo A B U R j) = _
      rw [ea, eb, nI_clamp (by omega), nI_clamp (by omega)]
    rw [eo]
    by_cases c : (bi R (a j) = 1 ∨ bi R (b j) = 1) ∧ bi U j = 1
    · rw [if_pos c, Nat.testBit_or, Nat.testBit_or, Nat.testBit_two_pow, Nat.testBit_two_pow]
      rw [bi_1, bi_1] at c
      constructor
      · intro h
        simp only [Bool.or_eq_true, decide_eq_true_eq] at h
        rcases h with h | h
        · rcases ih.mp h with g | ⟨d, h1, h2⟩
          · exact Or.inl g
          · exact Or.inr ⟨d, by omega, h2⟩
        · exact Or.inr ⟨j, by omega, c.2, h, c.1⟩
      · intro h
        simp only [Bool.or_eq_true, decide_eq_true_eq]
        rcases h with g | ⟨d, h1, h2, h3, h4⟩
        · exact Or.inl (ih.mpr (Or.inl g))
        · by_cases e : d = j
          · subst e
            exact Or.inr h3
          · exact Or.inl (ih.mpr (Or.inr ⟨d, by omega, h2, h3, h4⟩))
    · rw [if_neg c, ih]
      rw [bi_1, bi_1] at c
      constructor
      · rintro (g | ⟨d, h1, h2⟩)
        · exact Or.inl g
        · exact Or.inr ⟨d, by omega, h2⟩
      · rintro (g | ⟨d, h1, h2, h3, h4⟩)
        · exact Or.inl g
        · by_cases e : d = j
          · subst e
            exact absurd ⟨h4, h2⟩ c
          · exact Or.inr ⟨d, by omega, h2, h3, h4⟩
theorem rch_tb {A B : Nat → Int32} {a b : Nat → Nat} {U n x : Nat} (hp : ∀ d, d < n → A d = nI (a d) ∧ B d = nI (b d) ∧ a d < 10 ∧ b d < 10) : ∀ k y, (rch A B U n x k).testBit y = true ↔ RK a b n (fun d => bi U d = 1) x k y
  | 0, y => by
    show (2 ^ x).testBit y = true ↔ y = x
    rw [Nat.testBit_two_pow]
    simp only [decide_eq_true_eq]
    exact ⟨fun h => h.symm, fun h => h.symm⟩
  | k + 1, y => by
    show (odo A B U (rch A B U n x k) n).testBit y = true ↔ _
    rw [odo_tb hp y n (Nat.le_refl n), rch_tb hp k y]
    constructor
    · rintro (g | ⟨d, h1, h2, h3, h4⟩)
      · exact Or.inl g
      · exact Or.inr ⟨d, h1, h2, h3, by rw [← rch_tb hp k, ← rch_tb hp k]; exact h4⟩
    · rintro (g | ⟨d, h1, h2, h3, h4⟩)
      · exact Or.inl g
      · exact Or.inr ⟨d, h1, h2, h3, by rw [rch_tb hp k, rch_tb hp k]; exact h4⟩
theorem nz0 {x : Nat} (h : x < 2 ^ 31) (c : ¬ x = 0) : ¬ nI x = 0 := fun q => c ((nb_inj (b := 0) h (by decide)).mp q)
theorem nz1 {x : Nat} (h : x < 2 ^ 31) (c : ¬ x = 1) : ¬ nI x = 1 := fun q => c ((nb_inj (b := 1) h (by decide)).mp q)
theorem nz2 {x : Nat} (h : x < 2 ^ 31) (c : ¬ x = 2) : ¬ nI x = 2 := fun q => c ((nb_inj (b := 2) h (by decide)).mp q)
theorem nz8 {x : Nat} (h : x < 2 ^ 31) (c : ¬ x = 8) : ¬ nI x = 8 := fun q => c ((nb_inj (b := 8) h (by decide)).mp q)
theorem far_ne {j : Nat} (hj : j ≤ 100) : ¬ nI j = 100000000 := fun e => by
  have q := (nb_inj (a := j) (b := 100000000) (by omega) (by decide)).mp e
  omega
def FV (Rk : Nat → Nat → Prop) (k y : Nat) (v : Int32) : Prop := (∃ j, j ≤ k ∧ v = nI j ∧ Rk j y ∧ ∀ i, i < j → ¬ Rk i y) ∨ (v = 100000000 ∧ ¬ Rk k y)
def FW (a b : Nat → Nat) (n : Nat) (u : Nat → Prop) (x k d y : Nat) (v : Int32) : Prop := (∃ j, j ≤ k ∧ v = nI j ∧ RK a b n u x j y ∧ ∀ i, i < j → ¬ RK a b n u x i y) ∨ (v = nI (k + 1) ∧ RK a b n u x (k + 1) y ∧ ¬ RK a b n u x k y) ∨ (v = 100000000 ∧ ¬ RK a b n u x k y ∧ ∀ d', d' < d → u d' → (a d' = y → ¬ RK a b n u x k (b d')) ∧ (b d' = y → ¬ RK a b n u x k (a d')))
theorem FW_0 {a b : Nat → Nat} {n : Nat} {u : Nat → Prop} {x k y : Nat} {v : Int32} (h : FV (RK a b n u x) k y v) : FW a b n u x k 0 y v := by
  rcases h with h | ⟨h1, h2⟩
  · exact Or.inl h
  · exact Or.inr (Or.inr ⟨h1, h2, fun d' hd => absurd hd (by omega)⟩)
theorem FW_n {a b : Nat → Nat} {n : Nat} {u : Nat → Prop} {x k y : Nat} {v : Int32} (h : FW a b n u x k n y v) : FV (RK a b n u x) (k + 1) y v := by
  rcases h with ⟨j, h1, h2⟩ | ⟨h1, h2, h3⟩ | ⟨h1, h2, h3⟩
  · exact Or.inl ⟨j, by omega, h2⟩
  · exact Or.inl ⟨k + 1, Nat.le_refl _, h1, h2, fun i hi g => h3 (RK_le (by omega) g)⟩
  · refine Or.inr ⟨h1, ?_⟩
    rintro (g | ⟨d, g1, g2, g3 | g3, g4 | g4⟩)
    · exact h2 g
    · exact h2 (g3 ▸ g4)
    · exact (h3 d g1 g2).1 g3 g4
    · exact (h3 d g1 g2).2 g3 g4
    · exact h2 (g3 ▸ g4)
theorem FW_s {a b : Nat → Nat} {n : Nat} {u : Nat → Prop} {x k d y : Nat} {v : Int32} (hu : u d → a d ≠ y ∧ b d ≠ y) (h : FW a b n u x k d y v) : FW a b n u x k (d + 1) y v := by
  rcases h with h | h | ⟨h1, h2, h3⟩
  · exact Or.inl h
  · exact Or.inr (Or.inl h)
  · refine Or.inr (Or.inr ⟨h1, h2, fun d' hd hd' => ?_⟩)
    by_cases e : d' = d
    · subst e
      exact ⟨fun q => absurd q (hu hd').1, fun q => absurd q (hu hd').2⟩
    · exact h3 d' (by omega) hd'
/-- one end of a door that may be gone by -/
theorem FW_e {a b : Nat → Nat} {n : Nat} {u : Nat → Prop} {x k d y z : Nat} {vy vz : Int32} (hk : k ≤ 50) (hd : d < n) (hu : u d) (hyz : y ≠ z) (hc : (a d = y ∧ b d = z) ∨ (a d = z ∧ b d = y)) (hy : FW a b n u x k d y vy) (hz : FW a b n u x k d z vz) : FW a b n u x k (d + 1) y (if vz = nI k ∧ vy = 100000000 then nI (k + 1) else vy) := by
  have st : ∀ j, RK a b n u x j z → RK a b n u x (j + 1) y := by
    intro j g
    rcases hc with ⟨h1, h2⟩ | ⟨h1, h2⟩
    · exact Or.inr ⟨d, hd, hu, Or.inl h1, Or.inr (by rw [h2]; exact g)⟩
    · exact Or.inr ⟨d, hd, hu, Or.inr h2, Or.inl (by rw [h1]; exact g)⟩
  rcases hy with ⟨j, h1, h2, h3⟩ | ⟨h1, h2⟩ | ⟨h1, h2, h3⟩
  · rw [if_neg (fun q => far_ne (j := j) (by omega) (by rw [← h2]; exact q.2))]
    exact Or.inl ⟨j, h1, h2, h3⟩
  · rw [if_neg (fun q => far_ne (j := k + 1) (by omega) (by rw [← h1]; exact q.2))]
    exact Or.inr (Or.inl ⟨h1, h2⟩)
  · by_cases c : vz = nI k
    · rw [if_pos ⟨c, h1⟩]
      refine Or.inr (Or.inl ⟨rfl, st k ?_, h2⟩)
      rcases hz with ⟨j, g1, g2, g3, _⟩ | ⟨g1, _⟩ | ⟨g1, _⟩
      · have e := (nb_inj (by omega) (by omega)).mp (g2.symm.trans c)
        rw [← e]
        exact g3
      · have e := (nb_inj (by omega) (by omega)).mp (g1.symm.trans c)
        omega
      · exact absurd (c.symm.trans g1) (far_ne (by omega))
    · rw [if_neg (fun q => c q.1)]
      have nz : ¬ RK a b n u x k z := by
        intro g
        rcases hz with ⟨j, g1, g2, g3, _⟩ | ⟨_, _, g2⟩ | ⟨_, g2, _⟩
        · by_cases e : j = k
          · exact c (by rw [← e]; exact g2)
          · exact h2 (RK_le (by omega) (st j g3))
        · exact g2 g
        · exact g2 g
      refine Or.inr (Or.inr ⟨h1, h2, fun d' hd1 hd2 => ?_⟩)
      by_cases e : d' = d
      · subst e
        rcases hc with ⟨q1, q2⟩ | ⟨q1, q2⟩
        · exact ⟨fun _ => by rw [q2]; exact nz, fun q => absurd (q.symm.trans q2) hyz⟩
        · exact ⟨fun q => absurd (q.symm.trans q1) hyz, fun _ => by rw [q1]; exact nz⟩
      · exact h3 d' (by omega) hd2
/-- doors that one may go by, for the reference -/
def ud (ky s w d : Nat) : Prop := bi ky d = 1 ∧ bi s d = 0 ∧ bi w d = 0
theorem l267c {I : am_I} {n ky s w k x : Nat} {a b : Nat → Nat} {E : Int32 → am_I → Prop} (hn : n ≤ 12) (en : I 68 0 = nI n) (hky : ky < 4096) (hs : s < 4096) (hk : k < 9) (hd : ∀ d, d < n → I 68 (60 + 3 * d) = nI (bi w d) ∧ a d < 10 ∧ b d < 10 ∧ a d ≠ b d ∧ I 68 (58 + 3 * d) = nI (a d) ∧ I 68 (59 + 3 * d) = nI (b d)) (hE : ∀ J, (∀ c, c ≠ 87 → J c = I c) → (∀ y, y < 10 → FV (RK a b n (ud ky s w) x) (k + 1) y (J 87 y)) → E (nI n) J) : ∀ q j J, j + q = n → (∀ c, c ≠ 87 → J c = I c) → (∀ y, y < 10 → FW a b n (ud ky s w) x k j y (J 87 y)) → lw_267_63 (q + 1) (nI s) (nI ky) (nI (k + 1)) (nI j) J E
  | 0, j, J, h, hJ, hf => by
    have hj : j = n := by omega
    subst hj
    unfold lw_267_63
    rw [if_pos (by rw [hJ 68 (by decide), en]; exact nI_le (Nat.le_refl _) (by omega))]
    exact hE J hJ (fun y hy => FW_n (hf y hy))
  | q + 1, j, J, h, hJ, hf => by
    have ih := l267c (x := x) hn en hky hs hk hd hE q (j + 1)
    obtain ⟨ew, ha, hb, hab, ea, eb⟩ := hd j (by omega)
    have J68 : J 68 = I 68 := hJ 68 (by decide)
    unfold lw_267_63
    rw [if_neg (by rw [J68, en]; exact nI_ge (by omega) (by omega)), ← nI_succ]
    have no : (¬ ud ky s w j) → lw_267_63 (q + 1) (nI s) (nI ky) (nI (k + 1)) (nI (j + 1)) J E := fun hu => ih J (by omega) hJ (fun y hy => FW_s (fun g => absurd g hu) (hf y hy))
    rcases f248i (x := nI ky) (d := j) rfl hky (by omega) with ⟨f1, f2⟩ | ⟨f1, f2⟩
    · rw [if_pos f1]
      exact no (fun g => by have := g.1; omega)
    rw [if_neg (by rw [f1]; decide)]
    rcases f248i (x := nI s) (d := j) rfl hs (by omega) with ⟨f3, f4⟩ | ⟨f3, f4⟩
    · rw [if_pos f3]
      refine q250 (d := j) (k := 2) (by omega) (by decide) (v := nI (bi w j)) (by rw [J68, show 58 + 3 * j + 2 = 60 + 3 * j by omega]; exact ew) ?_
      have bl := bi_lt w j
      by_cases c0 : bi w j = 0
      · refine am_ifp (by rw [c0]; rfl) ?_
        refine q250 (d := j) (k := 0) (by omega) (by decide) (v := nI (a j)) (by rw [J68]; exact ea) ?_
        refine q250 (d := j) (k := 1) (by omega) (by decide) (v := nI (b j)) (by rw [J68, show 58 + 3 * j + 1 = 59 + 3 * j by omega]; exact eb) ?_
        have hu : ud ky s w j := ⟨f2, f4, c0⟩
        have R : ∀ v1 v2, v1 = (if J 87 (a j) = nI k ∧ J 87 (b j) = 100000000 then nI (k + 1) else J 87 (b j)) → v2 = (if J 87 (b j) = nI k ∧ J 87 (a j) = 100000000 then nI (k + 1) else J 87 (a j)) → lw_267_63 (q + 1) (nI s) (nI ky) (nI (k + 1)) (nI (j + 1)) (am_u (am_u J 87 (b j) v1) 87 (a j) v2) E := by
          intro v1 v2 e1 e2
          refine ih _ (by omega) (fun c hc => by rw [uu_h hc, uu_h hc]; exact hJ c hc) (fun y hy => ?_)
          by_cases ya : y = a j
          · subst ya
            rw [uu_e, e2]
            exact FW_e (by omega) (by omega) hu hab (Or.inl ⟨rfl, rfl⟩) (hf _ ha) (hf _ hb)
          · rw [uu_n ya]
            by_cases yb : y = b j
            · subst yb
              rw [uu_e, e1]
              exact FW_e (by omega) (by omega) hu (fun e => hab e.symm) (Or.inr ⟨rfl, rfl⟩) (hf _ hb) (hf _ ha)
            · rw [uu_n yb]
              exact FW_s (fun _ => ⟨fun e => ya e.symm, fun e => yb e.symm⟩) (hf y hy)
        have ga : ¬ (nI (a j) < 0 ∨ 10 ≤ a j) := by
          have g := nb_gd (m := a j) (b := 10) ha (by decide)
          rw [nI_clamp (by omega)] at g
          exact g
        have gb : ¬ (nI (b j) < 0 ∨ 10 ≤ b j) := by
          have g := nb_gd (m := b j) (b := 10) hb (by decide)
          rw [nI_clamp (by omega)] at g
          exact g
        have ek : nI (k + 1) - 1 = nI k := nb_sub (a := k + 1) (b := 1) (by omega)
        have n1 : ¬ nI (k + 1) = nI k := fun e => by
          have := (nb_inj (by omega) (by omega)).mp e
          omega
        have nk := far_ne (j := k) (by omega)
        have bn : b j ≠ a j := fun e => hab e.symm
        simp only [ek, nI_clamp (show a j < 2 ^ 31 by omega), nI_clamp (show b j < 2 ^ 31 by omega), uu_e, uu_n hab, uu_id]
        refine ⟨ga, ?_⟩
        by_cases c1 : J 87 (a j) = nI k
        · rw [if_pos c1]
          refine ⟨gb, ?_⟩
          have c1' : ¬ J 87 (a j) = 100000000 := by rw [c1]; exact nk
          by_cases c2 : J 87 (b j) = 100000000
          · rw [if_pos c2]
            refine ⟨gb, gb, ?_⟩
            rw [if_neg n1]
            refine ⟨ga, ga, ?_⟩
            exact R _ _ (by rw [if_pos ⟨c1, c2⟩]) (by rw [if_neg (fun g => c1' g.2)])
          · rw [if_neg c2]
            refine ⟨gb, gb, gb, ?_⟩
            have r := R (J 87 (b j)) (J 87 (a j)) (by rw [if_neg (fun g => c2 g.2)]) (by rw [if_neg (fun g => c1' g.2)])
            rw [uu_id, uu_id] at r
            by_cases c3 : J 87 (b j) = nI k
            · rw [if_pos c3, if_neg c1']
              exact ⟨ga, ga, ga, r⟩
            · rw [if_neg c3]
              exact ⟨ga, ga, r⟩
        · rw [if_neg c1]
          refine ⟨gb, gb, gb, ?_⟩
          by_cases c3 : J 87 (b j) = nI k
          · rw [if_pos c3]
            refine ⟨ga, ?_⟩
            by_cases c4 : J 87 (a j) = 100000000
            · rw [if_pos c4]
              refine ⟨ga, ?_⟩
              have r := R (J 87 (b j)) (nI (k + 1)) (by rw [if_neg (fun g => c1 g.1)]) (by rw [if_pos ⟨c3, c4⟩])
              rw [uu_id] at r
              exact r
            · rw [if_neg c4]
              have r := R (J 87 (b j)) (J 87 (a j)) (by rw [if_neg (fun g => c1 g.1)]) (by rw [if_neg (fun g => c4 g.2)])
              rw [uu_id, uu_id] at r
              exact ⟨ga, ga, r⟩
          · rw [if_neg c3]
            have r := R (J 87 (b j)) (J 87 (a j)) (by rw [if_neg (fun g => c1 g.1)]) (by rw [if_neg (fun g => c3 g.1)])
            rw [uu_id, uu_id] at r
            exact ⟨ga, ga, r⟩
      · refine am_ifn (fun e => c0 ((nb_inj (a := bi w j) (b := 0) (by omega) (by decide)).mp e)) ?_
        exact no (fun g => c0 g.2.2)
    · rw [if_neg (by rw [f3]; decide)]
      exact no (fun g => by have := g.2.1; omega)
theorem l267b {I : am_I} {n ky s w x : Nat} {a b : Nat → Nat} {E : Int32 → am_I → Prop} (hn : n ≤ 12) (en : I 68 0 = nI n) (hky : ky < 4096) (hs : s < 4096) (hd : ∀ d, d < n → I 68 (60 + 3 * d) = nI (bi w d) ∧ a d < 10 ∧ b d < 10 ∧ a d ≠ b d ∧ I 68 (58 + 3 * d) = nI (a d) ∧ I 68 (59 + 3 * d) = nI (b d)) (hE : ∀ J, (∀ c, c ≠ 87 → J c = I c) → FV (RK a b n (ud ky s w) x) 9 0 (J 87 0) → E (nI 10) J) : ∀ q k J, k + q = 9 → (∀ c, c ≠ 87 → J c = I c) → (∀ y, y < 10 → FV (RK a b n (ud ky s w) x) k y (J 87 y)) → lw_267_53 (q + 1) (nI s) (nI ky) (nI (k + 1)) J E
  | 0, k, J, h, hJ, hf => by
    have hj : k = 9 := by omega
    subst hj
    unfold lw_267_53
    rw [if_pos (show (10 : Int32) ≤ nI (9 + 1) from nI_le (a := 10) (b := 10) (by omega) (by decide))]
    exact hE J hJ (hf 0 (by decide))
  | q + 1, k, J, h, hJ, hf => by
    unfold lw_267_53
    rw [if_neg (show ¬ (10 : Int32) ≤ nI (k + 1) from nI_ge (b := 10) (by omega) (by decide))]
    refine ⟨n + 1, l267c (I := J) (x := x) (w := w) (a := a) (b := b) hn (by rw [hJ 68 (by decide)]; exact en) hky hs (by omega) (by rw [hJ 68 (by decide)]; exact hd) (fun J' hJ' hf' => ?_) n 0 J (by omega) (fun c _ => rfl) (fun y hy => FW_0 (hf y hy))⟩
    rw [← nI_succ]
    exact l267b hn en hky hs hd hE q (k + 1) J' (by omega) (fun c hc => (hJ' c hc).trans (hJ c hc)) hf'
theorem l267a {I : am_I} {p x : Nat} {s ky : Int32} {E : Int32 → am_I → Prop} (hp : p < 8) (hx : x < 10) (ex : I 68 (10 + p) = nI x) (hE : ∀ J, (∀ c, c ≠ 87 → J c = I c) → (∀ y, y < 10 → J 87 y = if y = x then 0 else 100000000) → E (nI 10) J) : ∀ q j J, j + q = 10 → (∀ c, c ≠ 87 → J c = I c) → (∀ y, y < j → J 87 y = if y = x then 0 else 100000000) → lw_267_9 (q + 1) (nI p) s ky (nI j) J E
  | 0, j, J, h, hJ, hf => by
    have hj : j = 10 := by omega
    subst hj
    unfold lw_267_9
    rw [if_pos (show (10 : Int32) ≤ nI 10 from nI_le (a := 10) (Nat.le_refl _) (by decide))]
    exact hE J hJ hf
  | q + 1, j, J, h, hJ, hf => by
    have ih := l267a (s := s) (ky := ky) hp hx ex hE q (j + 1)
    unfold lw_267_9
    rw [if_neg (show ¬ (10 : Int32) ≤ nI j from nI_ge (b := 10) (by omega) (by decide))]
    obtain ⟨g, c⟩ := ixa (a := 10) (n := p) (by omega)
    refine ⟨g, ?_⟩
    rw [show Int32.toNatClampNeg (10 + nI p) = 10 + p from c, hJ 68 (by decide), ex, ← nI_succ]
    have gj : ¬ (nI j < 0 ∨ 10 ≤ Int32.toNatClampNeg (nI j)) := nb_gd (by omega) (by decide)
    have st : ∀ v, v = (if j = x then (0 : Int32) else 100000000) → lw_267_9 (q + 1) (nI p) s ky (nI (j + 1)) (am_u J 87 j v) E := by
      intro v e
      refine ih _ (by omega) (fun c hc => by rw [uu_h hc]; exact hJ c hc) (fun y hy => ?_)
      by_cases ye : y = j
      · subst ye
        rw [uu_e, e]
      · rw [uu_n ye]
        exact hf y (by omega)
    by_cases e : j = x
    · rw [if_pos (by rw [e])]
      refine ⟨gj, ?_⟩
      rw [nI_clamp (by omega)]
      exact st 0 (by rw [if_pos e])
    · rw [if_neg (fun q => e ((nb_inj (by omega) (by omega)).mp q))]
      refine ⟨gj, ?_⟩
      rw [nI_clamp (by omega)]
      exact st 100000000 (by rw [if_neg e])
/-- doors out, by the reference -/
theorem q267 {I : am_I} {m n p s w x : Nat} {a b : Nat → Nat} {K : Int32 → am_I → Prop} (hm : m ≤ 8) (hpm : p < m) (hn : n ≤ 12) (hx : x < 10) (hs : s < 4096) (em : I 68 1 = nI m) (en : I 68 0 = nI n) (ex : I 68 (10 + p) = nI x) (hk : ∀ q, q < m → ∃ x, x < 4096 ∧ I 68 (18 + q) = nI x) (hd : ∀ d, d < n → I 68 (60 + 3 * d) = nI (bi w d) ∧ a d < 10 ∧ b d < 10 ∧ a d ≠ b d ∧ I 68 (58 + 3 * d) = nI (a d) ∧ I 68 (59 + 3 * d) = nI (b d))
    (hK : ∀ J v, (∀ c, c ≠ 87 → J c = I c) → FV (RK a b n (ud (kun (fun q => I 68 (18 + q)) (fun q => I 68 (42 + q)) p m) s w) x) 9 0 v → K v J) : w_267 (nI p) (nI s) I K := by
  unfold w_267
  have kl : kun (fun q => I 68 (18 + q)) (fun q => I 68 (42 + q)) p m < 4096 := kun_lt (k := fun q => I 68 (18 + q)) (t := fun q => I 68 (42 + q)) hpm hk m (Nat.le_refl m)
  refine q268 hm hpm em hk ?_
  refine ⟨11, l267a (by omega) hx ex (fun J hJ hf => ?_) 10 0 I (by omega) (fun c _ => rfl) (fun y hy => absurd hy (by omega))⟩
  refine ⟨10, l267b (I := I) (x := x) (w := w) (a := a) (b := b) (E := fun o9 I10 => K (I10 87 0) I10) hn en kl hs hd (fun J' hJ' hv => hK J' _ hJ' hv) 9 0 J (by omega) hJ (fun y hy => ?_)⟩
  rw [hf y hy]
  by_cases e : y = x
  · rw [if_pos e]
    exact Or.inl ⟨0, Nat.le_refl _, rfl, e, fun i hi => absurd hi (by omega)⟩
  · rw [if_neg e]
    exact Or.inr ⟨rfl, e⟩
