/-! cut: sets of places and the doors between them and the rest -/
theorem acc_tb (U : Nat → Bool) (i : Nat) : ∀ j, (acc U j).testBit i = (decide (i < j) && U i)
  | 0 => by
    show (0 : Nat).testBit i = _
    simp
  | j + 1 => by
    have ih := acc_tb U i j
    show (if U j = true then acc U j ||| 2 ^ j else acc U j).testBit i = _
    by_cases c : U j = true
    · rw [if_pos c, Nat.testBit_or, ih, Nat.testBit_two_pow]
      by_cases e : j = i
      · subst e
        simp [c]
      · by_cases l : i < j
        · simp [l, e, show i < j + 1 by omega]
        · simp [l, e, show ¬ i < j + 1 by omega]
    · rw [if_neg c, ih]
      by_cases e : j = i
      · subst e
        simp [c]
      · by_cases l : i < j
        · simp [l, show i < j + 1 by omega]
        · simp [l, show ¬ i < j + 1 by omega]
theorem acc_of {w n : Nat} (hw : w < 2 ^ n) : acc (fun d => decide (bi w d = 1)) n = w := by
  refine Nat.eq_of_testBit_eq (fun i => ?_)
  rw [acc_tb, bi_tb]
  by_cases l : i < n
  · cases w.testBit i <;> simp [l]
  · rw [Nat.testBit_lt_two_pow (Nat.lt_of_lt_of_le hw (Nat.pow_le_pow_right (by decide) (by omega)))]
    simp
theorem acc_cong {U V : Nat → Bool} : ∀ {n : Nat}, (∀ k, k < n → U k = V k) → acc U n = acc V n
  | 0, _ => rfl
  | n + 1, h => by
    show (if U n = true then acc U n ||| 2 ^ n else acc U n) = (if V n = true then acc V n ||| 2 ^ n else acc V n)
    rw [acc_cong (fun k hk => h k (by omega)), h n (by omega)]
/-- the order in which sets of doors are better: fewer, then lower -/
def le2 (p q : Nat) : Prop := pc p < pc q ∨ (pc p = pc q ∧ p ≤ q)
theorem le2_rf (p : Nat) : le2 p p := Or.inr ⟨rfl, Nat.le_refl p⟩
theorem le2_tr {p q r : Nat} (h : le2 p q) (g : le2 q r) : le2 p r := by
  unfold le2 at *
  omega
theorem le2_as {p q : Nat} (h : le2 p q) (g : le2 q p) : p = q := by
  unfold le2 at *
  omega
theorem le2_tt {p q : Nat} (h : ¬ le2 p q) : le2 q p := by
  unfold le2 at *
  omega
theorem pcn_sub {p q : Nat} (h : ∀ i, p.testBit i = true → q.testBit i = true) : ∀ k, pcn p k ≤ pcn q k
  | 0 => Nat.le_refl _
  | k + 1 => by
    have ih := pcn_sub h k
    have hb : bi p k ≤ bi q k := by
      rw [bi_tb, bi_tb]
      cases c : p.testBit k
      · simp
      · simp [h k c]
    show pcn p k + bi p k ≤ pcn q k + bi q k
    omega
theorem le_sub {p q : Nat} (h : ∀ i, p.testBit i = true → q.testBit i = true) : p ≤ q := by
  have e : p &&& q = p := by
    refine Nat.eq_of_testBit_eq (fun i => ?_)
    rw [Nat.testBit_and]
    cases c : p.testBit i
    · rfl
    · rw [h i c]
      rfl
  rw [← e]
  exact Nat.and_le_right
theorem le2_sub {p q : Nat} (h : ∀ i, p.testBit i = true → q.testBit i = true) : le2 p q := by
  have a : pc p ≤ pc q := pcn_sub h 12
  have b := le_sub h
  unfold le2
  omega
/-- doors at a place -/
def dat (a b : Nat → Nat) (U n y : Nat) : Nat := acc (fun d => decide (bi U d = 1) && (decide (a d = y) || decide (b d = y))) n
/-- places between -/
def btw (a b : Nat → Nat) (U n x y : Nat) : Bool := decide (1 ≤ y) && (!decide (y = x) && !decide (dat a b U n y = 0))
/-- the side of the own place: it, and those between that g has -/
def sid (a b : Nat → Nat) (U n x g y : Nat) : Bool := decide (y = x) || (btw a b U n x y && g.testBit (fb_ct (btw a b U n x) y))
/-- doors between that side and the rest -/
def prt (a b : Nat → Nat) (U n x g : Nat) : Nat := acc (fun d => decide (bi U d = 1) && (sid a b U n x g (a d) ^^ sid a b U n x g (b d))) n
theorem prt_lt (a b : Nat → Nat) (U n x g : Nat) : prt a b U n x g < 2 ^ n := acc_lt _ n
theorem prt_0 {a b : Nat → Nat} {U n x : Nat} (hab : ∀ d, d < n → a d ≠ b d) : prt a b U n x 0 = dat a b U n x := by
  unfold prt dat
  refine acc_cong (fun d hd => ?_)
  have h0 : ∀ y, sid a b U n x 0 y = decide (y = x) := by
    intro y
    unfold sid
    simp
  rw [h0, h0]
  have h := hab d hd
  by_cases c : a d = x
  · by_cases c2 : b d = x
    · exact absurd (c.trans c2.symm) h
    · simp [c, c2]
  · by_cases c2 : b d = x
    · simp [c, c2]
    · simp [c, c2]
theorem sid_fl {a b : Nat → Nat} {U n x g y z : Nat} (hy : btw a b U n x y = true) : sid a b U n x (g ^^^ 2 ^ fb_ct (btw a b U n x) y) z = (sid a b U n x g z ^^ decide (z = y)) := by
  have yx : ¬ y = x := by
    unfold btw at hy
    simp at hy
    exact hy.2.1
  unfold sid
  rw [fb_bit_flip]
  by_cases e : z = y
  · subst e
    rw [hy]
    simp [yx]
  · rw [decide_eq_false e, Bool.xor_false]
    cases hz : btw a b U n x z with
    | false => rfl
    | true =>
      have ne : ¬ fb_ct (btw a b U n x) z = fb_ct (btw a b U n x) y := fun q => e (fb_ct_kth_one hz hy q)
      rw [decide_eq_false ne, Bool.xor_false]
theorem prt_fl {a b : Nat → Nat} {U n x g y : Nat} (hab : ∀ d, d < n → a d ≠ b d) (hy : btw a b U n x y = true) : prt a b U n x (g ^^^ 2 ^ fb_ct (btw a b U n x) y) = prt a b U n x g ^^^ dat a b U n y := by
  refine Nat.eq_of_testBit_eq (fun i => ?_)
  unfold prt dat
  rw [Nat.testBit_xor, acc_tb, acc_tb, acc_tb, sid_fl hy, sid_fl hy]
  by_cases l : i < n
  · have h := hab i l
    by_cases c : a i = y
    · by_cases c2 : b i = y
      · exact absurd (c.trans c2.symm) h
      · simp only [l, c, c2, decide_true, decide_false, Bool.true_and, Bool.true_or, Bool.or_false, Bool.and_true, Bool.xor_false, Bool.xor_true]
        cases decide (bi U i = 1) <;> cases sid a b U n x g (b i) <;> cases sid a b U n x g y <;> rfl
    · by_cases c2 : b i = y
      · simp only [l, c, c2, decide_true, decide_false, Bool.true_and, Bool.or_true, Bool.and_true, Bool.xor_false, Bool.xor_true]
        cases decide (bi U i = 1) <;> cases sid a b U n x g (a i) <;> cases sid a b U n x g y <;> rfl
      · simp only [l, c, c2, decide_true, decide_false, Bool.true_and, Bool.or_false, Bool.and_false, Bool.xor_false]
  · simp [l]
/-! all that can be reached is reached in nine -/
theorem RK_10 {a b : Nat → Nat} {n : Nat} {u : Nat → Prop} {x : Nat} (hx : x < 10) (hp : ∀ d, d < n → a d < 10 ∧ b d < 10) {y : Nat} (h : RK a b n u x 10 y) : RK a b n u x 9 y := by
  have lt : ∀ k z, RK a b n u x k z → z < 10 := by
    intro k
    induction k with
    | zero => intro z hz; rw [show z = x from hz]; exact hx
    | succ k ih =>
      intro z hz
      rcases hz with g | ⟨d, g1, _, g3 | g3, _⟩
      · exact ih z g
      · rw [← g3]; exact (hp d g1).1
      · rw [← g3]; exact (hp d g1).2
  have dn : ∀ k z, RK a b n u x (k + 1) z → ¬ RK a b n u x k z → ∃ t, RK a b n u x k t ∧ ∀ i, i < k → ¬ RK a b n u x i t := by
    intro k z h1 h2
    rcases h1 with g | ⟨d, g1, g2, g3, g4⟩
    · exact absurd g h2
    · have fr : ∀ i t, i < k → (a d = t ∨ b d = t) → ¬ RK a b n u x i t := by
        intro i t hi ht g
        refine h2 (RK_le (show i + 1 ≤ k by omega) (Or.inr ⟨d, g1, g2, g3, ?_⟩))
        rcases ht with e | e
        · exact Or.inl (by rw [e]; exact g)
        · exact Or.inr (by rw [e]; exact g)
      rcases g4 with g4 | g4
      · exact ⟨a d, g4, fun i hi => fr i _ hi (Or.inl rfl)⟩
      · exact ⟨b d, g4, fun i hi => fr i _ hi (Or.inr rfl)⟩
  refine Classical.byContradiction (fun hn => ?_)
  have al : ∀ q k, k + q = 10 → ∃ t, RK a b n u x k t ∧ ∀ i, i < k → ¬ RK a b n u x i t := by
    intro q
    induction q with
    | zero =>
      intro k hk
      have e : k = 10 := by omega
      subst e
      exact ⟨y, h, fun i hi g => hn (RK_le (by omega) g)⟩
    | succ q ih =>
      intro k hk
      obtain ⟨t, t1, t2⟩ := ih (k + 1) (by omega)
      exact dn k t t1 (t2 k (by omega))
  have ch : ∀ k : Nat, ∃ t, k < 11 → (RK a b n u x k t ∧ ∀ i, i < k → ¬ RK a b n u x i t) := by
    intro k
    by_cases c : k < 11
    · obtain ⟨t, ht⟩ := al (10 - k) k (by omega)
      exact ⟨t, fun _ => ht⟩
    · exact ⟨0, fun q => absurd q c⟩
  obtain ⟨f, hf⟩ := Classical.axiomOfChoice ch
  have hh := fb_holes 10 11 f (fun i hi => lt i _ (hf i hi).1) (fun i j hij hj e => (hf j hj).2 i hij (by rw [← e]; exact (hf i (by omega)).1))
  omega
/-- what is between a side and the rest parts them -/
theorem prt_good {a b : Nat → Nat} {ky w n x g : Nat} (hn : n ≤ 12) (hx0 : x ≠ 0) : (prt a b (ky &&& (w ^^^ 4294967295)) n x g &&& w = 0) ∧ ∀ k, ¬ RK a b n (ud ky (prt a b (ky &&& (w ^^^ 4294967295)) n x g) w) x k 0 := by
  constructor
  · refine Nat.eq_of_testBit_eq (fun i => ?_)
    rw [Nat.testBit_and, Nat.zero_testBit]
    unfold prt
    rw [acc_tb]
    by_cases l : i < n
    · by_cases c : w.testBit i = true
      · have z : decide (bi (ky &&& (w ^^^ 4294967295)) i = 1) = false := by
          rw [decide_eq_false]
          intro q
          have q2 := ((ud_0 (show i < 32 by omega)).mp q).2.2
          rw [bi_tb, c] at q2
          simp at q2
        rw [z]
        simp
      · rw [ts_nt c]
        simp
    · rw [decide_eq_false l]
      rfl
  · intro k
    have inv : ∀ k y, RK a b n (ud ky (prt a b (ky &&& (w ^^^ 4294967295)) n x g) w) x k y → sid a b (ky &&& (w ^^^ 4294967295)) n x g y = true := by
      intro k
      induction k with
      | zero =>
        intro y hy
        unfold sid
        rw [show y = x from hy]
        simp
      | succ k ih =>
        intro y hy
        rcases hy with q | ⟨d, g1, g2, g3, g4⟩
        · exact ih y q
        · have hU : bi (ky &&& (w ^^^ 4294967295)) d = 1 := (ud_0 (by omega)).mpr ⟨g2.1, by rw [bi_tb]; simp, g2.2.2⟩
          have hb := g2.2.1
          rw [bi_tb] at hb
          have hc : (prt a b (ky &&& (w ^^^ 4294967295)) n x g).testBit d = false := by
            cases c : (prt a b (ky &&& (w ^^^ 4294967295)) n x g).testBit d
            · rfl
            · rw [c] at hb
              simp at hb
          unfold prt at hc
          rw [acc_tb, decide_eq_true g1, decide_eq_true hU, Bool.true_and, Bool.true_and] at hc
          have e : sid a b (ky &&& (w ^^^ 4294967295)) n x g (a d) = sid a b (ky &&& (w ^^^ 4294967295)) n x g (b d) := by
            cases c1 : sid a b (ky &&& (w ^^^ 4294967295)) n x g (a d) <;> cases c2 : sid a b (ky &&& (w ^^^ 4294967295)) n x g (b d) <;> rw [c1, c2] at hc <;> first | rfl | cases hc
          have both : sid a b (ky &&& (w ^^^ 4294967295)) n x g (a d) = true ∧ sid a b (ky &&& (w ^^^ 4294967295)) n x g (b d) = true := by
            rcases g4 with g4 | g4
            · exact ⟨ih _ g4, e ▸ ih _ g4⟩
            · exact ⟨e.symm ▸ ih _ g4, ih _ g4⟩
          rcases g3 with g3 | g3
          · rw [← g3]; exact both.1
          · rw [← g3]; exact both.2
    intro q
    have s := inv k 0 q
    unfold sid btw at s
    simp [Ne.symm hx0] at s
/-- what parts holds what is between some side and the rest -/
theorem prt_of {a b : Nat → Nat} {ky w n x t : Nat} (hn : n ≤ 12) (hx : x < 10) (hp : ∀ d, d < n → a d < 10 ∧ b d < 10) (ht : ¬ RK a b n (ud ky t w) x 9 0) : ∃ g, g < 2 ^ fb_ct (btw a b (ky &&& (w ^^^ 4294967295)) n x) 10 ∧ ∀ i, (prt a b (ky &&& (w ^^^ 4294967295)) n x g).testBit i = true → t.testBit i = true := by
  have hB : ∀ y, y < 10 → RK a b n (ud ky t w) x 9 y → y = x ∨ btw a b (ky &&& (w ^^^ 4294967295)) n x y = true := by
    intro y hy h
    by_cases e : y = x
    · exact Or.inl e
    · refine Or.inr ?_
      have y0 : 1 ≤ y := by
        rcases Nat.eq_zero_or_pos y with z | z
        · rw [z] at h
          exact absurd h ht
        · exact z
      have ex : ∀ k, RK a b n (ud ky t w) x k y → ∃ d, d < n ∧ ud ky t w d ∧ (a d = y ∨ b d = y) := by
        intro k
        induction k with
        | zero => intro q; exact absurd q e
        | succ k ih =>
          rintro (q | ⟨d, g1, g2, g3, _⟩)
          · exact ih q
          · exact ⟨d, g1, g2, g3⟩
      obtain ⟨d, g1, g2, g3⟩ := ex 9 h
      have nz : ¬ dat a b (ky &&& (w ^^^ 4294967295)) n y = 0 := by
        intro q
        have tb : (dat a b (ky &&& (w ^^^ 4294967295)) n y).testBit d = true := by
          unfold dat
          rw [acc_tb, decide_eq_true g1, decide_eq_true ((ud_0 (by omega)).mpr ⟨g2.1, by rw [bi_tb]; simp, g2.2.2⟩)]
          rcases g3 with g3 | g3
          · rw [decide_eq_true g3]; rfl
          · rw [decide_eq_true g3, Bool.or_true]; rfl
        rw [q] at tb
        simp at tb
      unfold btw
      rw [decide_eq_true y0, decide_eq_false e, decide_eq_false nz]
      rfl
  refine ⟨acc (fun i => dcd (∃ y, y < 10 ∧ btw a b (ky &&& (w ^^^ 4294967295)) n x y = true ∧ fb_ct (btw a b (ky &&& (w ^^^ 4294967295)) n x) y = i ∧ RK a b n (ud ky t w) x 9 y)) (fb_ct (btw a b (ky &&& (w ^^^ 4294967295)) n x) 10), acc_lt _ _, fun i hi => ?_⟩
  generalize hG : acc (fun i => dcd (∃ y, y < 10 ∧ btw a b (ky &&& (w ^^^ 4294967295)) n x y = true ∧ fb_ct (btw a b (ky &&& (w ^^^ 4294967295)) n x) y = i ∧ RK a b n (ud ky t w) x 9 y)) (fb_ct (btw a b (ky &&& (w ^^^ 4294967295)) n x) 10) = g at hi
  have sd : ∀ y, y < 10 → (sid a b (ky &&& (w ^^^ 4294967295)) n x g y = true ↔ RK a b n (ud ky t w) x 9 y) := by
    intro y hy
    unfold sid
    by_cases e : y = x
    · rw [decide_eq_true e, Bool.true_or]
      exact ⟨fun _ => RK_le (show 0 ≤ 9 by decide) e, fun _ => rfl⟩
    · rw [decide_eq_false e, Bool.false_or]
      cases hb : btw a b (ky &&& (w ^^^ 4294967295)) n x y with
      | false =>
        rw [Bool.false_and]
        constructor
        · intro q; cases q
        · intro q
          rcases hB y hy q with c | c
          · exact absurd c e
          · rw [hb] at c
            cases c
      | true =>
        rw [Bool.true_and, ← hG, acc_tb]
        have mono := fb_ct_mono (btw a b (ky &&& (w ^^^ 4294967295)) n x) (show y + 1 ≤ 10 by omega)
        rw [fb_ct_succ, hb] at mono
        simp only [if_true] at mono
        rw [decide_eq_true (by omega), Bool.true_and]
        constructor
        · intro q
          by_cases c : ∃ z, z < 10 ∧ btw a b (ky &&& (w ^^^ 4294967295)) n x z = true ∧ fb_ct (btw a b (ky &&& (w ^^^ 4294967295)) n x) z = fb_ct (btw a b (ky &&& (w ^^^ 4294967295)) n x) y ∧ RK a b n (ud ky t w) x 9 z
          · obtain ⟨z, z1, z2, z3, z4⟩ := c
            rw [← fb_ct_kth_one z2 hb z3]
            exact z4
          · rw [dcd_f c] at q
            cases q
        · intro q
          exact dcd_t ⟨y, hy, hb, rfl, q⟩
  unfold prt at hi
  rw [acc_tb] at hi
  simp only [Bool.and_eq_true, decide_eq_true_eq] at hi
  obtain ⟨l, hU, hx'⟩ := hi
  refine Classical.byContradiction (fun nt => ?_)
  have hud := (ud_0 (show i < 32 by omega)).mp hU
  have hu : ud ky t w i := ⟨hud.1, by rw [bi_tb, ts_nt nt]; rfl, hud.2.2⟩
  obtain ⟨pa, pb⟩ := hp i l
  have cl : ∀ y, y < 10 → (a i = y ∨ b i = y) → (RK a b n (ud ky t w) x 9 (a i) ∨ RK a b n (ud ky t w) x 9 (b i)) → RK a b n (ud ky t w) x 9 y := fun y hy h1 h2 => RK_10 hx hp (Or.inr ⟨i, l, hu, h1, h2⟩)
  cases c1 : sid a b (ky &&& (w ^^^ 4294967295)) n x g (a i) with
  | true =>
    have r := (sd _ pb).mpr (cl _ pb (Or.inr rfl) (Or.inl ((sd _ pa).mp c1)))
    rw [c1, r] at hx'
    cases hx'
  | false =>
    cases c2 : sid a b (ky &&& (w ^^^ 4294967295)) n x g (b i) with
    | true =>
      have r := (sd _ pa).mpr (cl _ pa (Or.inl rfl) (Or.inr ((sd _ pb).mp c2)))
      rw [c1] at r
      cases r
    | false =>
      rw [c1, c2] at hx'
      cases hx'
