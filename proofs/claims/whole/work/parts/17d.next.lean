/-! next: how many sets have so many inside, for all groups at once -/
theorem fb_ct_rev (P : Nat → Bool) : ∀ n, fb_ct (fun k => P (n - 1 - k)) n = fb_ct P n
  | 0 => rfl
  | n + 1 => by
    have h := fb_ct_split (fun k => P (n + 1 - 1 - k)) 1 n
    rw [Nat.add_comm 1 n] at h
    have h1 : fb_ct (fun k => P (n + 1 - 1 - k)) 1 = if P n then 1 else 0 := by
      show 0 + (if P (n + 1 - 1 - 0) then 1 else 0) = _
      rw [Nat.zero_add, show n + 1 - 1 - 0 = n by omega]
    have e : fb_ct (fun k => P (n + 1 - 1 - (1 + k))) n = fb_ct (fun k => P (n - 1 - k)) n := fb_ct_cong (fun k hk => by rw [show n + 1 - 1 - (1 + k) = n - 1 - k by omega])
    rw [h, h1, e, fb_ct_rev P n, fb_ct_succ P n]
    omega
def AP (F : Nat → Bool) (p g k x : Nat) : Bool := F x && (decide (x / 2 ^ p = g / 2 ^ p) && decide (pcn (x &&& g) p = k))
def cA (F : Nat → Bool) (m p g k : Nat) : Nat := fb_ct (AP F p g k) (2 ^ m)
theorem pcn_cg {a b : Nat} : ∀ p, (∀ i, i < p → a.testBit i = b.testBit i) → pcn a p = pcn b p
  | 0, _ => rfl
  | p + 1, h => by
    show pcn a p + bi a p = pcn b p + bi b p
    rw [pcn_cg p (fun i hi => h i (by omega)), bi_tb, bi_tb, h p (by omega)]
theorem dv_s (x p : Nat) : x / 2 ^ p = 2 * (x / 2 ^ (p + 1)) + bi x p := by
  unfold bi
  rw [Nat.pow_succ, ← Nat.div_div_eq_div_mul]
  omega
theorem dv_or {g p : Nat} (h : bi g p = 0) : (g ||| 2 ^ p) / 2 ^ (p + 1) = g / 2 ^ (p + 1) ∧ bi (g ||| 2 ^ p) p = 1 := by
  constructor
  · refine Nat.eq_of_testBit_eq (fun i => ?_)
    rw [Nat.testBit_div_two_pow, Nat.testBit_div_two_pow, Nat.testBit_or, Nat.testBit_two_pow, decide_eq_false (by omega), Bool.or_false]
  · rw [bi_1, Nat.testBit_or, Nat.testBit_two_pow]
    simp
theorem pcn_or {x g p : Nat} : pcn (x &&& (g ||| 2 ^ p)) p = pcn (x &&& g) p := pcn_cg p (fun i hi => by
  rw [Nat.testBit_and, Nat.testBit_and, Nat.testBit_or, Nat.testBit_two_pow, decide_eq_false (by omega), Bool.or_false])
theorem cA_0 {F : Nat → Bool} {m p g k : Nat} (h : bi g p = 0) : cA F m (p + 1) g k = cA F m p g k + cA F m p (g ||| 2 ^ p) k := by
  unfold cA
  obtain ⟨d1, d2⟩ := dv_or h
  rw [← fb_ct_or]
  · refine fb_ct_cong (fun x _ => ?_)
    unfold AP
    have e0 : pcn (x &&& g) (p + 1) = pcn (x &&& g) p := by
      show pcn (x &&& g) p + bi (x &&& g) p = _
      have z : bi (x &&& g) p = 0 := by
        rw [bi_tb] at h ⊢
        rw [Nat.testBit_and]
        cases c : g.testBit p
        · simp
        · rw [c] at h
          simp at h
      omega
    rw [pcn_or, e0, dv_s x p, dv_s g p, dv_s (g ||| 2 ^ p) p, d1, d2, h]
    have bl := bi_lt x p
    by_cases c : x / 2 ^ (p + 1) = g / 2 ^ (p + 1)
    · rw [c, decide_eq_true rfl]
      rcases (by omega : bi x p = 0 ∨ bi x p = 1) with z | z
      · rw [z, decide_eq_true (show 2 * (g / 2 ^ (p + 1)) + 0 = 2 * (g / 2 ^ (p + 1)) + 0 from rfl), decide_eq_false (show ¬ 2 * (g / 2 ^ (p + 1)) + 0 = 2 * (g / 2 ^ (p + 1)) + 1 by omega)]
        simp
      · rw [z, decide_eq_true (show 2 * (g / 2 ^ (p + 1)) + 1 = 2 * (g / 2 ^ (p + 1)) + 1 from rfl), decide_eq_false (show ¬ 2 * (g / 2 ^ (p + 1)) + 1 = 2 * (g / 2 ^ (p + 1)) + 0 by omega)]
        simp
    · rw [decide_eq_false c, decide_eq_false (show ¬ 2 * (x / 2 ^ (p + 1)) + bi x p = 2 * (g / 2 ^ (p + 1)) + 0 by omega), decide_eq_false (show ¬ 2 * (x / 2 ^ (p + 1)) + bi x p = 2 * (g / 2 ^ (p + 1)) + 1 by omega)]
      simp
  · intro x _
    unfold AP
    rw [dv_s x p, dv_s g p, dv_s (g ||| 2 ^ p) p, d1, d2, h]
    simp only [Bool.and_eq_true, decide_eq_true_eq]
    rintro ⟨⟨_, h1, _⟩, ⟨_, h2, _⟩⟩
    omega
theorem cA_1 {F : Nat → Bool} {m p g k : Nat} (h : bi g p = 0) : cA F m (p + 1) (g ||| 2 ^ p) k = cA F m p g k + (if 0 < k then cA F m p (g ||| 2 ^ p) (k - 1) else 0) := by
  obtain ⟨d1, d2⟩ := dv_or h
  have e0 : ∀ x, pcn (x &&& (g ||| 2 ^ p)) (p + 1) = pcn (x &&& g) p + bi x p := by
    intro x
    show pcn (x &&& (g ||| 2 ^ p)) p + bi (x &&& (g ||| 2 ^ p)) p = _
    have z : bi (x &&& (g ||| 2 ^ p)) p = bi x p := by
      rw [bi_1] at d2
      rw [bi_tb, bi_tb, Nat.testBit_and, d2, Bool.and_true]
    rw [pcn_or, z]
  by_cases k0 : 0 < k
  · rw [if_pos k0]
    unfold cA
    rw [← fb_ct_or]
    · refine fb_ct_cong (fun x _ => ?_)
      unfold AP
      rw [e0, pcn_or, dv_s x p, dv_s g p, dv_s (g ||| 2 ^ p) p, d1, d2, h]
      have bl := bi_lt x p
      by_cases c : x / 2 ^ (p + 1) = g / 2 ^ (p + 1)
      · rw [c, decide_eq_true rfl]
        rcases (by omega : bi x p = 0 ∨ bi x p = 1) with z | z
        · rw [z, decide_eq_true (show 2 * (g / 2 ^ (p + 1)) + 0 = 2 * (g / 2 ^ (p + 1)) + 0 from rfl), decide_eq_false (show ¬ 2 * (g / 2 ^ (p + 1)) + 0 = 2 * (g / 2 ^ (p + 1)) + 1 by omega)]
          simp
        · rw [z, decide_eq_true (show 2 * (g / 2 ^ (p + 1)) + 1 = 2 * (g / 2 ^ (p + 1)) + 1 from rfl), decide_eq_false (show ¬ 2 * (g / 2 ^ (p + 1)) + 1 = 2 * (g / 2 ^ (p + 1)) + 0 by omega)]
          have q : decide (pcn (x &&& g) p + 1 = k) = decide (pcn (x &&& g) p = k - 1) := by
            by_cases w : pcn (x &&& g) p = k - 1
            · rw [decide_eq_true w, decide_eq_true (by omega)]
            · rw [decide_eq_false w, decide_eq_false (by omega)]
          rw [q]
          simp
      · rw [decide_eq_false c, decide_eq_false (show ¬ 2 * (x / 2 ^ (p + 1)) + bi x p = 2 * (g / 2 ^ (p + 1)) + 0 by omega), decide_eq_false (show ¬ 2 * (x / 2 ^ (p + 1)) + bi x p = 2 * (g / 2 ^ (p + 1)) + 1 by omega)]
        simp
    · intro x _
      unfold AP
      rw [dv_s x p, dv_s g p, dv_s (g ||| 2 ^ p) p, d1, d2, h]
      simp only [Bool.and_eq_true, decide_eq_true_eq]
      rintro ⟨⟨_, h1, _⟩, ⟨_, h2, _⟩⟩
      omega
  · rw [if_neg k0, Nat.add_zero]
    unfold cA
    refine fb_ct_cong (fun x _ => ?_)
    unfold AP
    rw [e0, dv_s x p, dv_s g p, d1, h]
    have bl := bi_lt x p
    have kz : k = 0 := by omega
    by_cases c : x / 2 ^ (p + 1) = g / 2 ^ (p + 1)
    · rw [c, decide_eq_true rfl]
      rcases (by omega : bi x p = 0 ∨ bi x p = 1) with z | z
      · rw [z, decide_eq_true rfl]
        simp
      · rw [z, decide_eq_false (show ¬ pcn (x &&& g) p + 1 = k by omega), decide_eq_false (show ¬ 2 * (g / 2 ^ (p + 1)) + 1 = 2 * (g / 2 ^ (p + 1)) + 0 by omega)]
        simp
    · rw [decide_eq_false c, decide_eq_false (show ¬ 2 * (x / 2 ^ (p + 1)) + bi x p = 2 * (g / 2 ^ (p + 1)) + 0 by omega)]
      simp
theorem cA_hi {F : Nat → Bool} {m p g k : Nat} (h : p < k) : cA F m p g k = 0 := by
  unfold cA
  rw [fb_ct_zero]
  intro x _
  unfold AP
  have q := pcn_le (x &&& g) p
  rw [decide_eq_false (show ¬ pcn (x &&& g) p = k by omega)]
  simp
theorem cA_le (F : Nat → Bool) (m p g k : Nat) : cA F m p g k ≤ 2 ^ m := fb_ct_le _ _
theorem cA_st {F : Nat → Bool} {m g k : Nat} (hg : g < 2 ^ m) : cA F m 0 g k = if k = 0 then (if F g = true then 1 else 0) else 0 := by
  by_cases k0 : k = 0
  · subst k0
    rw [if_pos rfl]
    unfold cA
    have e : fb_ct (AP F 0 g 0) (2 ^ m) = fb_ct (fun x => if x = g then F g else false) (2 ^ m) := fb_ct_cong (fun x _ => by
      unfold AP
      rw [Nat.pow_zero, Nat.div_one, Nat.div_one]
      by_cases c : x = g
      · subst c
        rw [if_pos rfl]
        show (F x && (decide (x = x) && decide (0 = 0))) = F x
        simp
      · rw [if_neg c, decide_eq_false c]
        simp)
    have u := fb_ct_upd (fun _ => false) (F g) hg
    have z : fb_ct (fun _ => false) (2 ^ m) = 0 := fb_ct_zero.mpr (fun _ _ => rfl)
    simp only [Bool.false_eq_true, if_false, Nat.add_zero] at u
    rw [e, u, z, Nat.zero_add]
  · rw [if_neg k0, cA_hi (by omega)]
/-- sets of those out: so many of the group inside -/
def cS (F : Nat → Bool) (g k n : Nat) : Nat := fb_ct (fun s => F s && decide (pc g = pc (g &&& s) + k)) n
theorem pc_pcn {x m : Nat} (hx : x < 2 ^ m) : ∀ d, pcn x (m + d) = pcn x m
  | 0 => rfl
  | d + 1 => by
    show pcn x (m + d) + bi x (m + d) = _
    rw [pc_pcn hx d, bi_hi hx (by omega), Nat.add_zero]
theorem pc_m {x m : Nat} (hm : m ≤ 12) (hx : x < 2 ^ m) : pc x = pcn x m := by
  have q := pc_pcn hx (12 - m)
  rw [show m + (12 - m) = 12 by omega] at q
  exact q
theorem sub_x {m s : Nat} (hs : s < 2 ^ m) (i : Nat) : (2 ^ m - 1 - s).testBit i = (decide (i < m) && !s.testBit i) := by
  rw [show 2 ^ m - 1 - s = 2 ^ m - (s + 1) by omega]
  exact Nat.testBit_two_pow_sub_succ hs i
theorem cS_cA {F : Nat → Bool} {m g k : Nat} (hm : m ≤ 12) (hg : g < 2 ^ m) : cS F g k (2 ^ m) = cA (fun x => F (2 ^ m - 1 - x)) m m g k := by
  unfold cS cA
  rw [← fb_ct_rev]
  refine fb_ct_cong (fun x hx => ?_)
  unfold AP
  rw [Nat.div_eq_of_lt hx, Nat.div_eq_of_lt hg, decide_eq_true rfl, Bool.true_and]
  have xg : x &&& g < 2 ^ m := Nat.lt_of_le_of_lt Nat.and_le_left hx
  rw [← pc_m hm xg]
  have e : g &&& (2 ^ m - 1 - x) = g &&& (x ^^^ 4294967295) := by
    refine Nat.eq_of_testBit_eq (fun i => ?_)
    rw [Nat.testBit_and, Nat.testBit_and, sub_x hx, Nat.testBit_xor, show (4294967295 : Nat) = 2 ^ 32 - 1 from rfl, Nat.testBit_two_pow_sub_one]
    by_cases l : i < m
    · rw [decide_eq_true l, decide_eq_true (by omega)]
      cases x.testBit i <;> rfl
    · rw [Nat.testBit_lt_two_pow (Nat.lt_of_lt_of_le hg (Nat.pow_le_pow_right (by decide) (by omega)))]
      rfl
  have an := pc_an g x
  rw [e, Nat.and_comm x g]
  have q : decide (pc g = pc (g &&& (x ^^^ 4294967295)) + k) = decide (pc (g &&& x) = k) := by
    by_cases c : pc (g &&& x) = k
    · rw [decide_eq_true c, decide_eq_true (by omega)]
    · rw [decide_eq_false c, decide_eq_false (by omega)]
  rw [q]
/-- the most of some numbers -/
def mxn (f : Nat → Nat) : Nat → Nat
  | 0 => 0
  | n + 1 => max (mxn f n) (f n)
theorem mxn_cong {f h : Nat → Nat} : ∀ {n : Nat}, (∀ k, k < n → f k = h k) → mxn f n = mxn h n
  | 0, _ => rfl
  | n + 1, e => by
    show max (mxn f n) (f n) = max (mxn h n) (h n)
    rw [mxn_cong (fun k hk => e k (by omega)), e n (by omega)]
theorem mxn_le {f : Nat → Nat} {b : Nat} : ∀ {n : Nat}, (∀ k, k < n → f k ≤ b) → mxn f n ≤ b
  | 0, _ => Nat.zero_le _
  | n + 1, e => Nat.max_le.mpr ⟨mxn_le (fun k hk => e k (by omega)), e n (by omega)⟩
theorem mxn_ge {f : Nat → Nat} {k : Nat} : ∀ {n : Nat}, k < n → f k ≤ mxn f n
  | 0, h => absurd h (by omega)
  | n + 1, h => by
    show f k ≤ max (mxn f n) (f n)
    by_cases e : k = n
    · rw [e]; exact Nat.le_max_right _ _
    · exact Nat.le_trans (mxn_ge (show k < n by omega)) (Nat.le_max_left _ _)
theorem mxn_up {f h : Nat → Nat} {k n : Nat} (hk : k < n) (e1 : h k = f k + 1) (e2 : ∀ j, j < n → j ≠ k → h j = f j) : mxn h n = max (mxn f n) (f k + 1) := by
  refine Nat.le_antisymm (mxn_le (fun j hj => ?_)) (Nat.max_le.mpr ⟨mxn_le (fun j hj => ?_), ?_⟩)
  · by_cases c : j = k
    · rw [c, e1]; exact Nat.le_max_right _ _
    · rw [e2 j hj c]; exact Nat.le_trans (mxn_ge hj) (Nat.le_max_left _ _)
  · by_cases c : j = k
    · rw [c]
      have q := mxn_ge (f := h) hk
      omega
    · rw [← e2 j hj c]; exact mxn_ge hj
  · rw [← e1]; exact mxn_ge hk
theorem mxn_ext {f : Nat → Nat} {a : Nat} (h : ∀ k, a ≤ k → f k = 0) : ∀ d, mxn f (a + d) = mxn f a
  | 0 => rfl
  | d + 1 => by
    show max (mxn f (a + d)) (f (a + d)) = mxn f a
    rw [mxn_ext h d, h (a + d) (by omega)]
    omega
/-- the best group of the first n, by the most that is left -/
def BG (M : Nat → Nat) (n : Nat) (its least : Int32) : Prop := ∃ t, 1 ≤ t ∧ t ≤ n ∧ its = nI t ∧ least = nI (M t) ∧ ∀ j, 1 ≤ j → j ≤ n → M t ≤ M j ∧ (j < t → M t < M j)
theorem BG_one {M : Nat → Nat} {n : Nat} {a b c d : Int32} (h : BG M n a b) (g : BG M n c d) : a = c ∧ b = d := by
  obtain ⟨t, t1, t2, t3, t4, t5⟩ := h
  obtain ⟨u, u1, u2, u3, u4, u5⟩ := g
  have e : t = u := by
    rcases Nat.lt_trichotomy t u with l | l | l
    · have q := (u5 t t1 t2).2 l
      have r := (t5 u u1 u2).1
      omega
    · exact l
    · have q := (t5 u u1 u2).2 l
      have r := (u5 t t1 t2).1
      omega
  subst e
  exact ⟨t3.trans u3.symm, t4.trans u4.symm⟩
theorem BG_keep {M : Nat → Nat} {n : Nat} {a b : Int32} (hM : ∀ j, M j < 2 ^ 30) (h : BG M n a b) (hb : b ≤ nI (M (n + 1))) : BG M (n + 1) a b := by
  obtain ⟨t, t1, t2, t3, t4, t5⟩ := h
  have q1 := hM t
  have q2 := hM (n + 1)
  rw [t4, nb_le (by omega) (by omega)] at hb
  refine ⟨t, t1, by omega, t3, t4, fun j j1 j2 => ?_⟩
  by_cases e : j = n + 1
  · subst e
    exact ⟨hb, fun q => absurd q (by omega)⟩
  · exact t5 j j1 (by omega)
theorem BG_new {M : Nat → Nat} {n : Nat} {a b : Int32} (hM : ∀ j, M j < 2 ^ 30) (h : BG M n a b ∨ n = 0) (hb : ¬ b ≤ nI (M (n + 1))) : BG M (n + 1) (nI (n + 1)) (nI (M (n + 1))) := by
  refine ⟨n + 1, by omega, Nat.le_refl _, rfl, rfl, fun j j1 j2 => ?_⟩
  by_cases e : j = n + 1
  · subst e
    exact ⟨Nat.le_refl _, fun q => absurd q (by omega)⟩
  · rcases h with ⟨t, t1, t2, t3, t4, t5⟩ | h
    · have q1 := hM t
      have q2 := hM (n + 1)
      rw [t4, nb_le (by omega) (by omega)] at hb
      have r := (t5 j j1 (by omega)).1
      exact ⟨by omega, fun _ => by omega⟩
    · omega
