/-! numbers: ints by their naturals, bits, ranges -/
theorem nb_add (a b : Nat) : nI a + nI b = nI (a + b) := (Int32.ofNat_add a b).symm
theorem nb_mul (a b : Nat) : nI a * nI b = nI (a * b) := (Int32.ofNat_mul a b).symm
theorem nb_sub {a b : Nat} (h : b ≤ a) : nI a - nI b = nI (a - b) := (Int32.ofNat_sub a b h).symm
theorem nb_inj {a b : Nat} (ha : a < 2 ^ 31) (hb : b < 2 ^ 31) : nI a = nI b ↔ a = b := by
  constructor
  · intro h
    have e := congrArg Int32.toInt h
    rw [nI_toInt ha, nI_toInt hb] at e
    omega
  · intro h
    rw [h]
theorem nb_lt {a b : Nat} (ha : a < 2 ^ 31) (hb : b < 2 ^ 31) : nI a < nI b ↔ a < b := by
  rw [Int32.lt_iff_toInt_lt, nI_toInt ha, nI_toInt hb]
  omega
theorem nb_le {a b : Nat} (ha : a < 2 ^ 31) (hb : b < 2 ^ 31) : nI a ≤ nI b ↔ a ≤ b := by
  rw [Int32.le_iff_toInt_le, nI_toInt ha, nI_toInt hb]
  omega
theorem nb_of {x : Int32} (h : ¬ x < 0) : ∃ n, n < 2 ^ 31 ∧ x = nI n := by
  have h1 : (0 : Int) ≤ x.toInt := by
    rw [Int32.lt_iff_toInt_lt, Int32.toInt_zero] at h
    omega
  have h2 := x.toInt_lt
  refine ⟨x.toInt.toNat, by omega, Int32.toInt_inj.mp ?_⟩
  rw [nI_toInt (by omega)]
  omega
theorem nb_m1 {n : Nat} (h : n < 2 ^ 31) : ¬ nI n = -1 := by
  intro e
  have a := congrArg Int32.toInt e
  rw [nI_toInt h, show Int32.toInt (-1) = -1 from rfl] at a
  omega
/-- a place of a row -/
theorem nb_gd {m b : Nat} (h : m < b) (hb : b < 2 ^ 31) : ¬ (nI m < 0 ∨ b ≤ Int32.toNatClampNeg (nI m)) := nI_in h hb
theorem nb_gdx {x : Int32} {m b : Nat} (e : x = nI m) (h : m < b) (hb : b < 2 ^ 31) : ¬ (x < 0 ∨ b ≤ Int32.toNatClampNeg x) := by
  rw [e]
  exact nI_in h hb
theorem nb_cl {x : Int32} {m : Nat} (e : x = nI m) (h : m < 2 ^ 31) : Int32.toNatClampNeg x = m := by
  rw [e]
  exact nI_clamp h
theorem lc_lt (x y : Int64) : lg_cmp x y < 0 ↔ x < y := by
  unfold lg_cmp
  split
  · rename_i h
    have h : y < x := h
    rw [Int64.lt_iff_toInt_lt] at h ⊢
    constructor
    · intro g
      exact absurd g (by decide)
    · intro g
      omega
  · rename_i h
    split
    · rename_i e
      constructor
      · intro g
        exact absurd g (by decide)
      · intro g
        rw [e, Int64.lt_iff_toInt_lt] at g
        omega
    · rename_i e
      constructor
      · intro _
        have h : ¬ y < x := h
        rw [Int64.lt_iff_toInt_lt] at h ⊢
        have : x.toInt ≠ y.toInt := fun q => e (Int64.toInt_inj.mp q)
        omega
      · intro _
        decide
theorem lc_gt (x y : Int64) : 0 < lg_cmp x y ↔ y < x := by
  unfold lg_cmp
  split
  · rename_i h
    exact ⟨fun _ => h, fun _ => by decide⟩
  · rename_i h
    have h : ¬ y < x := h
    split
    · exact ⟨fun g => absurd g (by decide), fun g => absurd g h⟩
    · exact ⟨fun g => absurd g (by decide), fun g => absurd g h⟩
theorem lc_eq (x y : Int64) : lg_cmp x y = 0 ↔ x = y := by
  unfold lg_cmp
  split
  · rename_i h
    have h : y < x := h
    rw [Int64.lt_iff_toInt_lt] at h
    constructor
    · intro g
      exact absurd g (by decide)
    · intro g
      rw [g] at h
      omega
  · split
    · rename_i e
      exact ⟨fun _ => e, fun _ => rfl⟩
    · rename_i e
      exact ⟨fun g => absurd g (by decide), fun g => absurd g e⟩
theorem q182 (x a b : Int32) : f_182 x.toInt64 a.toInt64 b.toInt64 = f_13 x a b := by
  unfold f_182 f_13
  by_cases h1 : x < a
  · rw [if_pos h1, if_pos ((lc_lt _ _).mpr ((fa_wide_lt x a).mpr h1))]
  · rw [if_neg h1, if_neg (fun h => h1 ((fa_wide_lt x a).mp ((lc_lt _ _).mp h)))]
    by_cases h2 : b < x
    · rw [if_pos h2, if_pos ((lc_gt _ _).mpr ((fa_wide_lt b x).mpr h2))]
    · rw [if_neg h2, if_neg (fun h => h2 ((fa_wide_lt b x).mp ((lc_gt _ _).mp h)))]
/-- between two numbers, or not -/
theorem q13 (x : Int32) (a b : Nat) (ha : a < 2 ^ 31) (hb : b < 2 ^ 31) : (f_13 x (nI a) (nI b) = 0 ∧ ∀ n, a ≤ n → n ≤ b → ¬ x = nI n) ∨ (f_13 x (nI a) (nI b) = 1 ∧ ∃ n, a ≤ n ∧ n ≤ b ∧ x = nI n) := by
  unfold f_13
  by_cases h1 : x < nI a
  · rw [if_pos h1]
    refine Or.inl ⟨rfl, fun n h2 h3 e => ?_⟩
    rw [e, nb_lt (by omega) ha] at h1
    omega
  · rw [if_neg h1]
    have h0 : ¬ x < 0 := by
      intro h
      rw [Int32.lt_iff_toInt_lt, nI_toInt ha] at h1
      rw [Int32.lt_iff_toInt_lt, Int32.toInt_zero] at h
      omega
    obtain ⟨n, hn, rfl⟩ := nb_of h0
    rw [nb_lt hn ha] at h1
    by_cases h2 : nI b < nI n
    · rw [if_pos h2]
      rw [nb_lt hb hn] at h2
      refine Or.inl ⟨rfl, fun m h3 h4 e => ?_⟩
      rw [nb_inj hn (by omega)] at e
      omega
    · rw [if_neg h2]
      rw [nb_lt hb hn] at h2
      exact Or.inr ⟨rfl, n, by omega, by omega, rfl⟩
theorem q18 (x : Int32) : (f_18 x = 0 ∧ f_13 x 0 1 = 0 ∧ ¬ x = 0 ∧ ¬ x = 1) ∨ (f_18 x = 1 ∧ f_13 x 0 1 = 1 ∧ ∃ b, b < 2 ∧ x = nI b) := by
  rcases q13 x 0 1 (by decide) (by decide) with ⟨h, g⟩ | ⟨h, n, _, hn, e⟩
  · have g0 : ¬ x = 0 := g 0 (by omega) (by omega)
    have g1 : ¬ x = 1 := g 1 (by omega) (by omega)
    refine Or.inl ⟨?_, h, g0, g1⟩
    unfold f_18
    rw [if_neg g0, if_neg g1]
  · refine Or.inr ⟨?_, h, n, by omega, e⟩
    unfold f_18
    rcases (by omega : n = 0 ∨ n = 1) with rfl | rfl
    · rw [if_pos (show x = 0 from e)]
    · rw [if_neg (by rw [e]; decide), if_pos (show x = 1 from e)]
/-- below a count, by the class (a test of two sides) and by the reference (from 0 to one less) -/
theorem qlt (x : Int32) (m : Nat) (hm : m < 2 ^ 31) : ((if x < 0 then (0 : Int32) else if nI m ≤ x then 0 else 1) = 0 ∧ f_182 x.toInt64 0 ((nI m).toInt64 - 1) = 0 ∧ ∀ n, n < m → ¬ x = nI n) ∨ ((if x < 0 then (0 : Int32) else if nI m ≤ x then 0 else 1) = 1 ∧ f_182 x.toInt64 0 ((nI m).toInt64 - 1) = 1 ∧ ∃ n, n < m ∧ x = nI n) := by
  have e1 : (nI m).toInt64 - 1 = (nI m - 1).toInt64 := by
    apply Int64.toInt_inj.mp
    rw [Int32.toInt_toInt64, Int64.toInt_sub, Int32.toInt_toInt64, Int32.toInt_sub, nI_toInt hm, show Int64.toInt 1 = 1 from rfl, show Int32.toInt 1 = 1 from rfl, Int.bmod_eq_of_le (by omega) (by omega), Int.bmod_eq_of_le (by omega) (by omega)]
  rw [e1, show (0 : Int64) = (0 : Int32).toInt64 from rfl, q182]
  by_cases h0 : x < 0
  · refine Or.inl ⟨by rw [if_pos h0], by unfold f_13; rw [if_pos h0], fun n hn e => ?_⟩
    rw [e] at h0
    exact nI_pos (by omega) h0
  · obtain ⟨n, hn, rfl⟩ := nb_of h0
    rw [if_neg h0]
    unfold f_13
    rw [if_neg h0]
    have e2 : (nI m - 1).toInt = (m : Int) - 1 := by
      rw [Int32.toInt_sub, nI_toInt hm, show Int32.toInt 1 = 1 from rfl]
      exact Int.bmod_eq_of_le (by omega) (by omega)
    by_cases h1 : m ≤ n
    · rw [if_pos ((nb_le hm hn).mpr h1)]
      refine Or.inl ⟨rfl, ?_, fun k hk e => ?_⟩
      · rw [if_pos]
        rw [Int32.lt_iff_toInt_lt, e2, nI_toInt hn]
        omega
      · rw [nb_inj hn (by omega)] at e
        omega
    · rw [if_neg (fun h => h1 ((nb_le hm hn).mp h))]
      refine Or.inr ⟨rfl, ?_, n, by omega, rfl⟩
      rw [if_neg]
      rw [Int32.lt_iff_toInt_lt, e2, nI_toInt hn]
      omega
/-! bits -/
def bi (w d : Nat) : Nat := w / 2 ^ d % 2
theorem bi_lt (w d : Nat) : bi w d < 2 := Nat.mod_lt _ (by decide)
theorem bi_tb (w d : Nat) : bi w d = if w.testBit d then 1 else 0 := by
  unfold bi
  rw [Nat.testBit_eq_decide_div_mod_eq]
  have h := Nat.mod_lt (w / 2 ^ d) (show 2 > 0 by decide)
  by_cases e : w / 2 ^ d % 2 = 1
  · simp [e]
  · simp [e]
    omega
theorem bt_n (k i : Nat) (hi : i < 32) : bt (nI k) i = k.testBit i := by
  show (BitVec.ofNat 32 k).getLsbD i = k.testBit i
  rw [BitVec.getLsbD_ofNat]
  simp [hi]
/-- one bit of an int -/
theorem q20 {w d : Nat} (hw : w < 2 ^ 31) (hd : d < 31) : f_20 (nI w) (nI d) = nI (bi w d) := by
  unfold f_20
  refine b_ext (fun i hi => ?_)
  rw [b_and, b_sshr d (by omega) _ hi, bt_n _ _ hi, show (1 : Int32) = nI 1 from rfl, bt_n _ _ hi, bi_tb]
  by_cases h0 : i = 0
  · subst h0
    rw [if_pos (by omega), bt_n _ _ (by omega)]
    simp
    cases w.testBit d <;> simp
  · have e : Nat.testBit 1 i = false := Nat.testBit_lt_two_pow (Nat.one_lt_two_pow h0)
    rw [e, Bool.and_false]
    cases w.testBit d
    · simp
    · simp
      omega
theorem q1s : ∀ d, d < 31 → ((1 : Int32) <<< (nI d &&& 31)) = nI (2 ^ d) := by decide +kernel
theorem q21a {w d : Nat} (hd : d < 31) : f_21 (nI w) (nI d) (nI 1) = nI (w ||| 2 ^ d) := by
  unfold f_21
  rw [if_pos (show nI 1 = 1 from rfl), q1s d hd, fa_or]
theorem q21b {w d : Nat} (hd : d < 31) : f_21 (nI w) (nI d) (nI 0) = nI (w &&& (2 ^ d ^^^ 4294967295)) := by
  unfold f_21
  rw [if_neg (by decide), q1s d hd, show (-1 : Int32) = nI 4294967295 from rfl, nx_xor, nx_and]
/-- a word with one bit set so -/
def sb (w d b : Nat) : Nat := if b = 1 then w ||| 2 ^ d else w &&& (2 ^ d ^^^ 4294967295)
theorem q21 {w d b : Nat} (hd : d < 31) (hb : b < 2) : f_21 (nI w) (nI d) (nI b) = nI (sb w d b) := by
  unfold sb
  rcases (by omega : b = 0 ∨ b = 1) with rfl | rfl
  · rw [q21b hd, if_neg (by decide)]
  · rw [q21a hd, if_pos rfl]
theorem sb_tb {w d b i : Nat} (hi : i < 32) (hb : b < 2) : (sb w d b).testBit i = if i = d then decide (b = 1) else w.testBit i := by
  unfold sb
  rcases (by omega : b = 0 ∨ b = 1) with rfl | rfl
  · rw [if_neg (by decide), Nat.testBit_and, Nat.testBit_xor, Nat.testBit_two_pow, show (4294967295 : Nat) = 2 ^ 32 - 1 from rfl, Nat.testBit_two_pow_sub_one]
    by_cases e : i = d
    · subst e
      simp [hi]
    · simp [hi, e, Ne.symm e]
  · rw [if_pos rfl, Nat.testBit_or, Nat.testBit_two_pow]
    by_cases e : i = d
    · subst e
      simp
    · simp [e, Ne.symm e]
theorem bi_sb {w d b i : Nat} (hi : i < 32) (hb : b < 2) : bi (sb w d b) i = if i = d then b else bi w i := by
  rw [bi_tb, bi_tb, sb_tb hi hb]
  by_cases e : i = d
  · rw [if_pos e, if_pos e]
    rcases (by omega : b = 0 ∨ b = 1) with rfl | rfl <;> simp
  · rw [if_neg e, if_neg e]
theorem sb_lt {w d b n : Nat} (hw : w < 2 ^ n) (hd : d < n) (hn : n < 32) (hb : b < 2) : sb w d b < 2 ^ n := by
  refine Nat.lt_pow_two_of_testBit _ (fun i hi => ?_)
  unfold sb
  have h1 : w.testBit i = false := Nat.testBit_lt_two_pow (Nat.lt_of_lt_of_le hw (Nat.pow_le_pow_right (by decide) hi))
  rcases (by omega : b = 0 ∨ b = 1) with rfl | rfl
  · rw [if_neg (by decide), Nat.testBit_and, h1, Bool.false_and]
  · rw [if_pos rfl, Nat.testBit_or, h1, Nat.testBit_two_pow]
    simp
    omega
theorem bi_hi {w n i : Nat} (hw : w < 2 ^ n) (hi : n ≤ i) : bi w i = 0 := by
  rw [bi_tb, Nat.testBit_lt_two_pow (Nat.lt_of_lt_of_le hw (Nat.pow_le_pow_right (by decide) hi))]
  rfl
/-- the reference sets a bit by a sum -/
def sbk (w d : Nat) : Bool := decide (bi w d = 0 → sb w d 1 = w + 2 ^ d ∧ sb w d 0 = w) && decide (bi w d = 1 → sb w d 0 + 2 ^ d = w ∧ sb w d 1 = w)
theorem sb_sum0 : ∀ a, a < 64 → ∀ b, b < 64 → ∀ d, d < 12 → sbk (64 * a + b) d = true := by decide +kernel
theorem sb_sum (w : Nat) (hw : w < 4096) (d : Nat) (hd : d < 12) : (bi w d = 0 → sb w d 1 = w + 2 ^ d ∧ sb w d 0 = w) ∧ (bi w d = 1 → sb w d 0 + 2 ^ d = w ∧ sb w d 1 = w) := by
  have h := sb_sum0 (w / 64) (by omega) (w % 64) (by omega) d hd
  rw [show 64 * (w / 64) + w % 64 = w by omega] at h
  unfold sbk at h
  rw [Bool.and_eq_true] at h
  exact ⟨of_decide_eq_true h.1, of_decide_eq_true h.2⟩
