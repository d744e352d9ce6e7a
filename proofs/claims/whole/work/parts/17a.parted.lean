/-! parted: rows of keepers, how many part -/
def mt (t : Nat → Nat) (p q : Nat) : Bool := decide (bi (t p) q = 1) && decide (bi (t q) p = 1)
theorem mt_s (t : Nat → Nat) (p q : Nat) : mt t p q = mt t q p := Bool.and_comm _ _
def hi2 (s : Nat) : Nat := nz (sb s (nz s) 0)
def gd (t : Nat → Nat) (s : Nat) : Bool := if pc s = 2 then !mt t (nz s) (hi2 s) else decide (2 < pc s)
def s2k (s : Nat) : Bool := decide (pc s = 2 → nz s < hi2 s ∧ hi2 s < 8 ∧ s = 2 ^ nz s ||| 2 ^ hi2 s ∧ 1 ≤ sb s (nz s) 0 ∧ sb s (nz s) 0 < 256)
theorem s2_all : ∀ a, a < 16 → ∀ b, b < 16 → s2k (16 * a + b) = true := by decide +kernel
theorem s2_s {s : Nat} (hs : s < 256) (h : pc s = 2) : nz s < hi2 s ∧ hi2 s < 8 ∧ s = 2 ^ nz s ||| 2 ^ hi2 s ∧ 1 ≤ sb s (nz s) 0 ∧ sb s (nz s) 0 < 256 := by
  have q := s2_all (s / 16) (by omega) (s % 16) (by omega)
  rw [show 16 * (s / 16) + s % 16 = s by omega] at q
  unfold s2k at q
  exact of_decide_eq_true q h
def p2k (p q : Nat) : Bool := decide (p < q → pc (2 ^ p ||| 2 ^ q) = 2 ∧ nz (2 ^ p ||| 2 ^ q) = p ∧ hi2 (2 ^ p ||| 2 ^ q) = q)
theorem p2_all : ∀ p, p < 8 → ∀ q, q < 8 → p2k p q = true := by decide +kernel
theorem p2_s {p q : Nat} (hp : p < 8) (hq : q < 8) (h : p < q) : pc (2 ^ p ||| 2 ^ q) = 2 ∧ nz (2 ^ p ||| 2 ^ q) = p ∧ hi2 (2 ^ p ||| 2 ^ q) = q := by
  have r := p2_all p hp q hq
  unfold p2k at r
  exact of_decide_eq_true r h
def p3k (p q e : Nat) : Bool := decide (p < q → (e = p ∨ e = q → 2 ^ e ||| (2 ^ p ||| 2 ^ q) = 2 ^ p ||| 2 ^ q) ∧ (¬ (e = p ∨ e = q) → pc (2 ^ e ||| (2 ^ p ||| 2 ^ q)) = 3))
theorem p3_all : ∀ p, p < 8 → ∀ q, q < 8 → ∀ e, e < 8 → p3k p q e = true := by decide +kernel
theorem p3_s {p q e : Nat} (hp : p < 8) (hq : q < 8) (he : e < 8) (h : p < q) : (e = p ∨ e = q → 2 ^ e ||| (2 ^ p ||| 2 ^ q) = 2 ^ p ||| 2 ^ q) ∧ (¬ (e = p ∨ e = q) → pc (2 ^ e ||| (2 ^ p ||| 2 ^ q)) = 3) := by
  have r := p3_all p hp q hq e he
  unfold p3k at r
  exact of_decide_eq_true r h
theorem p1_all : ∀ p, p < 8 → pc (2 ^ p) = 1 := by decide +kernel
theorem pc_or (x s : Nat) : pc s ≤ pc (x ||| s) := pcn_sub (fun i h => by rw [Nat.testBit_or, h, Bool.or_true]) 12
theorem gd_2 {t : Nat → Nat} {p q : Nat} (hp : p < 8) (hq : q < 8) (h : p < q) : gd t (2 ^ p ||| 2 ^ q) = !mt t p q := by
  obtain ⟨a, b, c⟩ := p2_s hp hq h
  unfold gd
  rw [if_pos a, b, c]
theorem gd_3 {t : Nat → Nat} {s : Nat} (h : 3 ≤ pc s) : gd t s = true := by
  unfold gd
  rw [if_neg (by omega), decide_eq_true (by omega)]
theorem gd_1 {t : Nat → Nat} {s : Nat} (h : pc s ≤ 1) : gd t s = false := by
  unfold gd
  rw [if_neg (by omega), decide_eq_false (by omega)]
/-- digits of a row's number -/
def dst (m : Nat) : Nat → Nat → Nat
  | 0, _ => 0
  | n + 1, c => dst m n (c / m) ||| 2 ^ (c % m)
theorem dst_top {m : Nat} (hm : 0 < m) : ∀ n d c, d < m → c < m ^ n → dst m (n + 1) (d * m ^ n + c) = dst m n c ||| 2 ^ d
  | 0, d, c, hd, hc => by
    have c0 : c = 0 := by
      rw [Nat.pow_zero] at hc
      omega
    subst c0
    show dst m 0 _ ||| 2 ^ ((d * m ^ 0 + 0) % m) = dst m 0 0 ||| 2 ^ d
    rw [Nat.pow_zero, Nat.mul_one, Nat.add_zero, Nat.mod_eq_of_lt hd]
    rfl
  | n + 1, d, c, hd, hc => by
    show dst m (n + 1) ((d * m ^ (n + 1) + c) / m) ||| 2 ^ ((d * m ^ (n + 1) + c) % m) = (dst m n (c / m) ||| 2 ^ (c % m)) ||| 2 ^ d
    have e : d * m ^ (n + 1) + c = c + m * (d * m ^ n) := by
      rw [Nat.pow_succ, Nat.mul_comm m (d * m ^ n), Nat.mul_assoc]
      omega
    have cl : c / m < m ^ n := by
      rw [Nat.div_lt_iff_lt_mul hm]
      rw [Nat.pow_succ] at hc
      exact hc
    rw [e, Nat.add_mul_div_left _ _ hm, Nat.add_mul_mod_self_left, Nat.add_comm (c / m), dst_top hm n d (c / m) hd cl]
    rw [Nat.or_assoc, Nat.or_assoc, Nat.or_comm (2 ^ d)]
theorem dst_tb {m : Nat} (y : Nat) : ∀ n c, (dst m n c).testBit y = true ↔ ∃ i, i < n ∧ c / m ^ i % m = y
  | 0, c => by
    show (0 : Nat).testBit y = true ↔ _
    rw [Nat.zero_testBit]
    constructor
    · intro h; cases h
    · rintro ⟨i, h, _⟩; omega
  | n + 1, c => by
    show (dst m n (c / m) ||| 2 ^ (c % m)).testBit y = true ↔ _
    rw [Nat.testBit_or, Nat.testBit_two_pow, Bool.or_eq_true, dst_tb y n (c / m), decide_eq_true_eq]
    constructor
    · rintro (⟨i, h1, h2⟩ | h)
      · refine ⟨i + 1, by omega, ?_⟩
        rw [Nat.pow_succ, Nat.mul_comm, ← Nat.div_div_eq_div_mul]
        exact h2
      · exact ⟨0, by omega, by rw [Nat.pow_zero, Nat.div_one]; exact h⟩
    · rintro ⟨i, h1, h2⟩
      cases i with
      | zero =>
        rw [Nat.pow_zero, Nat.div_one] at h2
        exact Or.inr h2
      | succ i =>
        refine Or.inl ⟨i, by omega, ?_⟩
        rw [Nat.pow_succ, Nat.mul_comm, ← Nat.div_div_eq_div_mul] at h2
        exact h2
theorem dst_lt {m : Nat} (hm : 0 < m) : ∀ n c, dst m n c < 2 ^ m
  | 0, _ => Nat.two_pow_pos m
  | n + 1, c => Nat.or_lt_two_pow (dst_lt hm n _) (Nat.pow_lt_pow_right (by decide) (Nat.mod_lt _ hm))
/-! sums -/
theorem fb_blk (f : Nat → Bool) (q : Nat) : ∀ m, fb_ct f (m * q) = fb_sm (fun d => fb_ct (fun c => f (d * q + c)) q) m
  | 0 => by
    rw [Nat.zero_mul]
    rfl
  | m + 1 => by
    rw [Nat.succ_mul, fb_ct_split, fb_blk f q m, fb_sm_succ]
theorem fb_sm1 {d : Nat} (x y : Nat) (P : Nat → Bool) : ∀ m, fb_sm (fun e => if e = d then x else if P e = true then y else 0) m = (if d < m then x else 0) + fb_ct (fun e => !decide (e = d) && P e) m * y
  | 0 => by
    show 0 = (if d < 0 then x else 0) + 0 * y
    rw [if_neg (by omega)]
    omega
  | m + 1 => by
    rw [fb_sm_succ, fb_ct_succ, fb_sm1 x y P m]
    by_cases e : m = d
    · subst e
      simp only [if_true, decide_true, Bool.not_true, Bool.false_and, Bool.false_eq_true, if_false, Nat.add_zero]
      rw [if_neg (by omega), if_pos (by omega)]
      omega
    · rw [if_neg e]
      simp only [decide_eq_false e, Bool.not_false, Bool.true_and]
      have hh : (if d < m then x else 0) = (if d < m + 1 then x else 0) := by
        by_cases l : d < m
        · rw [if_pos l, if_pos (by omega)]
        · rw [if_neg l, if_neg (by omega)]
      rw [← hh]
      cases P m with
      | true => simp only [if_true]; rw [Nat.succ_mul]; omega
      | false => simp only [Bool.false_eq_true, if_false, Nat.add_zero]
theorem fb_sm01 (P : Nat → Bool) : ∀ n, fb_sm (fun q => if P q then 1 else 0) n = fb_ct P n
  | 0 => rfl
  | n + 1 => by rw [fb_sm_succ, fb_ct_succ, fb_sm01 P n]
theorem fb_swap (F : Nat → Nat → Bool) (n : Nat) : ∀ m, fb_sm (fun p => fb_ct (F p) n) m = fb_sm (fun q => fb_ct (fun p => F p q) m) n
  | 0 => by
    show 0 = fb_sm (fun q => 0) n
    rw [fb_sm_const]
    omega
  | m + 1 => by
    rw [fb_sm_succ, fb_swap F n m]
    have e : fb_sm (fun q => fb_ct (fun p => F p q) (m + 1)) n = fb_sm (fun q => fb_ct (fun p => F p q) m + (if F m q then 1 else 0)) n := fb_sm_cong (fun q _ => fb_ct_succ _ _)
    rw [e, fb_sm_add, fb_sm01]
theorem fb_smul (f : Nat → Nat) (k : Nat) : ∀ n, fb_sm (fun i => f i * k) n = fb_sm f n * k
  | 0 => by
    show 0 = 0 * k
    omega
  | n + 1 => by rw [fb_sm_succ, fb_sm_succ, fb_smul f k n, Nat.add_mul]
/-- rows of n more by which, with s, it isn't parted -/
def CN (t : Nat → Nat) (m n s : Nat) : Nat := fb_ct (fun c => !gd t (dst m n c ||| s)) (m ^ n)
theorem CN_s {t : Nat → Nat} {m : Nat} (hm : 0 < m) (n s : Nat) : CN t m (n + 1) s = fb_sm (fun d => CN t m n (2 ^ d ||| s)) m := by
  unfold CN
  rw [Nat.pow_succ, Nat.mul_comm, fb_blk]
  refine fb_sm_cong (fun d hd => fb_ct_cong (fun c hc => ?_))
  rw [dst_top hm n d c hd hc, Nat.or_assoc]
theorem CN_3 {t : Nat → Nat} {m n s : Nat} (h : 3 ≤ pc s) : CN t m n s = 0 := by
  unfold CN
  rw [fb_ct_zero]
  intro k _
  rw [gd_3 (Nat.le_trans h (pc_or _ s))]
  rfl
theorem CN_2 {t : Nat → Nat} {m p q : Nat} (hm : m ≤ 8) (hq : q < m) (h : p < q) : ∀ n, CN t m n (2 ^ p ||| 2 ^ q) = if mt t p q = true then 2 ^ n else 0
  | 0 => by
    show fb_ct (fun c => !gd t (0 ||| (2 ^ p ||| 2 ^ q))) 1 = _
    rw [fb_ct_succ, Nat.zero_or, gd_2 (by omega) (by omega) h, Bool.not_not]
    show 0 + _ = _
    rw [Nat.zero_add, Nat.pow_zero]
  | n + 1 => by
    rw [CN_s (by omega)]
    have e : fb_sm (fun d => CN t m n (2 ^ d ||| (2 ^ p ||| 2 ^ q))) m = fb_sm (fun d => if d = p then CN t m n (2 ^ p ||| 2 ^ q) else if decide (d = q) = true then CN t m n (2 ^ p ||| 2 ^ q) else 0) m := by
      refine fb_sm_cong (fun d hd => ?_)
      obtain ⟨r1, r2⟩ := p3_s (p := p) (q := q) (e := d) (by omega) (by omega) (by omega) h
      by_cases c1 : d = p
      · rw [if_pos c1, r1 (Or.inl c1)]
      · rw [if_neg c1]
        by_cases c2 : d = q
        · rw [decide_eq_true c2, if_pos rfl, r1 (Or.inr c2)]
        · rw [decide_eq_false c2, if_neg (by decide)]
          exact CN_3 (by rw [r2 (fun g => g.elim c1 c2)]; exact Nat.le_refl 3)
    rw [e, fb_sm1, if_pos (by omega)]
    have one : fb_ct (fun e => !decide (e = p) && decide (e = q)) m = 1 := by
      have z : fb_ct (fun e => !decide (e = p) && decide (e = q)) m = fb_ct (fun e => if e = q then true else false) m := fb_ct_cong (fun k _ => by
        by_cases c : k = q
        · subst c
          simp [show ¬ k = p by omega]
        · simp [c])
      have z2 := fb_ct_upd (fun _ => false) true (i := q) (n := m) hq
      have z3 : fb_ct (fun _ => false) m = 0 := fb_ct_zero.mpr (fun _ _ => rfl)
      rw [z]
      simp only [if_true, Bool.false_eq_true, if_false] at z2
      omega
    rw [one, CN_2 hm hq h n, Nat.one_mul, Nat.pow_succ]
    split
    · omega
    · rfl
def deg (t : Nat → Nat) (m d : Nat) : Nat := fb_ct (fun e => !decide (e = d) && mt t d e) m
theorem CN_1 {t : Nat → Nat} {m d : Nat} (hm : m ≤ 8) (hd : d < m) : ∀ n, CN t m n (2 ^ d) = 1 + deg t m d * (2 ^ n - 1)
  | 0 => by
    show fb_ct (fun c => !gd t (0 ||| 2 ^ d)) 1 = _
    rw [fb_ct_succ, Nat.zero_or, gd_1 (by rw [p1_all d (by omega)]; exact Nat.le_refl 1)]
    rfl
  | n + 1 => by
    rw [CN_s (by omega)]
    have e : fb_sm (fun e => CN t m n (2 ^ e ||| 2 ^ d)) m = fb_sm (fun e => if e = d then CN t m n (2 ^ d) else if mt t d e = true then 2 ^ n else 0) m := by
      refine fb_sm_cong (fun e he => ?_)
      by_cases c1 : e = d
      · rw [if_pos c1, c1, Nat.or_self]
      · rw [if_neg c1]
        rcases Nat.lt_or_ge e d with l | l
        · rw [CN_2 hm hd l n, mt_s]
        · rw [Nat.or_comm, CN_2 hm he (show d < e by omega) n]
    rw [e, fb_sm1, if_pos hd, CN_1 hm hd n]
    show 1 + deg t m d * (2 ^ n - 1) + deg t m d * 2 ^ n = 1 + deg t m d * (2 ^ (n + 1) - 1)
    have p1 := Nat.two_pow_pos n
    rw [Nat.add_assoc, ← Nat.mul_add, Nat.pow_succ, show 2 ^ n - 1 + 2 ^ n = 2 ^ n * 2 - 1 by omega]
/-- pairs who trust each other -/
def prF (t : Nat → Nat) (p q : Nat) : Bool := decide (p < q) && mt t p q
def prs (t : Nat → Nat) (m : Nat) : Nat := fb_sm (fun p => fb_ct (prF t p) m) m
theorem deg_s (t : Nat → Nat) (m : Nat) : fb_sm (deg t m) m = 2 * prs t m := by
  have e : fb_sm (deg t m) m = fb_sm (fun p => fb_ct (prF t p) m + fb_ct (fun q => prF t q p) m) m := by
    refine fb_sm_cong (fun p _ => ?_)
    unfold deg
    rw [← fb_ct_or]
    · refine fb_ct_cong (fun q _ => ?_)
      unfold prF
      rw [mt_s t q p]
      rcases Nat.lt_trichotomy p q with c | c | c
      · simp [c, show ¬ q = p by omega, show ¬ q < p by omega]
      · subst c
        simp
      · simp [c, show ¬ q = p by omega, show ¬ p < q by omega]
    · intro q _
      unfold prF
      rintro ⟨h1, h2⟩
      simp only [Bool.and_eq_true, decide_eq_true_eq] at h1 h2
      omega
  rw [e, fb_sm_add, ← fb_swap (prF t) m m]
  unfold prs
  omega
/-- how many rows part -/
def gdn (t : Nat → Nat) (m n : Nat) : Nat := fb_ct (fun c => gd t (dst m n c)) (m ^ n)
theorem gdn_eq {t : Nat → Nat} {m n : Nat} (hm : m ≤ 8) (hn : 1 ≤ n) : gdn t m n + (m + prs t m * (2 ^ n - 2)) = m ^ n := by
  by_cases m0 : m = 0
  · subst m0
    obtain ⟨k, rfl⟩ : ∃ k, n = k + 1 := ⟨n - 1, by omega⟩
    have z : (0 : Nat) ^ (k + 1) = 0 := by rw [Nat.pow_succ, Nat.mul_zero]
    unfold gdn
    rw [z]
    show 0 + (0 + 0 * _) = 0
    omega
  · obtain ⟨k, rfl⟩ : ∃ k, n = k + 1 := ⟨n - 1, by omega⟩
    have h := fb_ct_not (fun c => gd t (dst m (k + 1) c)) (m ^ (k + 1))
    have e : fb_ct (fun c => !gd t (dst m (k + 1) c)) (m ^ (k + 1)) = CN t m (k + 1) 0 := by
      unfold CN
      refine fb_ct_cong (fun c _ => ?_)
      rw [Nat.or_zero]
    have e2 : CN t m (k + 1) 0 = m + prs t m * (2 ^ (k + 1) - 2) := by
      rw [CN_s (by omega)]
      have e3 : fb_sm (fun d => CN t m k (2 ^ d ||| 0)) m = fb_sm (fun d => 1 + deg t m d * (2 ^ k - 1)) m := fb_sm_cong (fun d hd => by rw [Nat.or_zero, CN_1 hm hd k])
      rw [e3, fb_sm_add, fb_sm_const, fb_smul, deg_s, Nat.mul_one, Nat.mul_comm 2, Nat.mul_assoc, Nat.pow_succ]
      have p1 := Nat.two_pow_pos k
      rw [show 2 * (2 ^ k - 1) = 2 ^ k * 2 - 2 by omega]
    rw [e, e2] at h
    exact h
theorem gdn_le {t : Nat → Nat} {m n : Nat} (hm : m ≤ 8) (hn : n ≤ 6) : m ^ n ≤ 262144 := by
  have a : m ^ n ≤ 8 ^ n := Nat.pow_le_pow_left hm n
  have b : 8 ^ n ≤ 8 ^ 6 := Nat.pow_le_pow_right (by decide) hn
  omega
/-- a row that parts is among the first -/
theorem gd_ex {t : Nat → Nat} {m n : Nat} (hm : m ≤ 8) (hn : 2 ≤ n) (h : ∃ c, c < m ^ n ∧ gd t (dst m n c) = true) : ∃ c, c < m * m ∧ gd t (dst m n c) = true := by
  obtain ⟨c, hc, hg⟩ := h
  have m0 : 0 < m := by
    rcases Nat.eq_zero_or_pos m with z | z
    · subst z
      obtain ⟨k, rfl⟩ : ∃ k, n = k + 1 := ⟨n - 1, by omega⟩
      rw [Nat.pow_succ, Nat.mul_zero] at hc
      omega
    · exact z
  by_cases n2 : n = 2
  · subst n2
    exact ⟨c, by rw [Nat.pow_two] at hc; exact hc, hg⟩
  obtain ⟨k, rfl⟩ : ∃ k, n = k + 3 := ⟨n - 3, by omega⟩
  have z1 : ∀ j, dst m (j + 1) 0 = 1 := by
    intro j
    induction j with
    | zero => show 0 ||| 2 ^ (0 % m) = 1; rw [Nat.zero_mod]; rfl
    | succ j ih => show dst m (j + 1) (0 / m) ||| 2 ^ (0 % m) = 1; rw [Nat.zero_div, ih, Nat.zero_mod]; rfl
  by_cases m3 : 3 ≤ m
  · refine ⟨m + 2, ?_, ?_⟩
    · have : 3 * m ≤ m * m := Nat.mul_le_mul_right m m3
      omega
    · have e : dst m (k + 3) (m + 2) = 7 := by
        show (dst m (k + 1) ((m + 2) / m / m) ||| 2 ^ ((m + 2) / m % m)) ||| 2 ^ ((m + 2) % m) = 7
        have a1 : (m + 2) / m = 1 := by
          rw [Nat.add_div_left _ m0, Nat.div_eq_of_lt (by omega)]
        have a2 : (m + 2) % m = 2 := by
          rw [Nat.add_mod_left, Nat.mod_eq_of_lt (by omega)]
        rw [a1, a2, Nat.div_eq_of_lt (by omega : 1 < m), Nat.mod_eq_of_lt (by omega : 1 < m), z1 k]
        rfl
      rw [e]
      exact gd_3 (by decide)
  · have lt := dst_lt m0 (k + 3) c
    by_cases m2 : m = 2
    · subst m2
      refine ⟨1, by decide, ?_⟩
      have e : dst 2 (k + 3) 1 = 3 := by
        show dst 2 (k + 2) (1 / 2) ||| 2 ^ (1 % 2) = 3
        rw [show 1 / 2 = 0 from rfl, z1 (k + 1)]
        rfl
      rw [e]
      generalize dst 2 (k + 3) c = s at lt hg
      have s4 : s < 4 := lt
      rcases (by omega : s = 0 ∨ s = 1 ∨ s = 2 ∨ s = 3) with r | r | r | r
      · rw [r, gd_1 (by decide)] at hg
        cases hg
      · rw [r, gd_1 (by decide)] at hg
        cases hg
      · rw [r, gd_1 (by decide)] at hg
        cases hg
      · rw [r] at hg
        exact hg
    · have m1 : m = 1 := by omega
      subst m1
      generalize dst 1 (k + 3) c = s at lt hg
      have s2 : s < 2 := lt
      rcases (by omega : s = 0 ∨ s = 1) with r | r
      · rw [r, gd_1 (by decide)] at hg
        cases hg
      · rw [r, gd_1 (by decide)] at hg
        cases hg
