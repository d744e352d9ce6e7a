/-! parted: the loops -/
def dg (m n c j : Nat) : Nat := c / m ^ (n - 1 - j) % m
def ks (f : Nat → Nat) : Nat → Nat
  | 0 => 0
  | j + 1 => ks f j ||| 2 ^ f j
theorem ks_tb (f : Nat → Nat) (y : Nat) : ∀ j, (ks f j).testBit y = true ↔ ∃ i, i < j ∧ f i = y
  | 0 => by
    show (0 : Nat).testBit y = true ↔ _
    rw [Nat.zero_testBit]
    constructor
    · intro h; cases h
    · rintro ⟨i, h, _⟩; omega
  | j + 1 => by
    show (ks f j ||| 2 ^ f j).testBit y = true ↔ _
    rw [Nat.testBit_or, Nat.testBit_two_pow, Bool.or_eq_true, ks_tb f y j, decide_eq_true_eq]
    constructor
    · rintro (⟨i, h1, h2⟩ | h)
      · exact ⟨i, by omega, h2⟩
      · exact ⟨j, by omega, h⟩
    · rintro ⟨i, h1, h2⟩
      by_cases e : i = j
      · rw [e] at h2
        exact Or.inr h2
      · exact Or.inl ⟨i, by omega, h2⟩
theorem ks_dg (m n c : Nat) : ks (dg m n c) n = dst m n c := by
  refine Nat.eq_of_testBit_eq (fun y => ?_)
  rw [Bool.eq_iff_iff, ks_tb, dst_tb]
  constructor
  · rintro ⟨i, h1, h2⟩
    exact ⟨n - 1 - i, by omega, h2⟩
  · rintro ⟨i, h1, h2⟩
    refine ⟨n - 1 - i, by omega, ?_⟩
    unfold dg
    rw [show n - 1 - (n - 1 - i) = i by omega]
    exact h2
theorem ks_lt {f : Nat → Nat} {n : Nat} (h : ∀ j, j < n → f j < 8) : ∀ j, j ≤ n → ks f j < 256
  | 0, _ => by
    show 0 < 256
    decide
  | j + 1, hj => Nat.or_lt_two_pow (n := 8) (ks_lt h j (by omega)) (Nat.pow_lt_pow_right (by decide) (h j (by omega)))
theorem ks_pos {f : Nat → Nat} {n : Nat} (hn : 1 ≤ n) : 1 ≤ ks f n := by
  have q := (ks_tb f (f 0) n).mpr ⟨0, by omega, rfl⟩
  rcases Nat.eq_zero_or_pos (ks f n) with z | z
  · rw [z, Nat.zero_testBit] at q
    cases q
  · exact z
theorem pc_pos {s : Nat} (h : s < 256) (h1 : 1 ≤ s) : 1 ≤ pc s := by
  rcases Nat.eq_zero_or_pos (pc s) with z | z
  · have : ∀ k, pcn s k = 0 → ∀ i, i < k → bi s i = 0 := by
      intro k
      induction k with
      | zero => intro _ i hi; omega
      | succ k ih =>
        intro h i hi
        have h : pcn s k + bi s k = 0 := h
        by_cases e : i = k
        · rw [e]; omega
        · exact ih (by omega) i (by omega)
    have al := this 12 z
    have e : s = 0 := by
      refine Nat.eq_of_testBit_eq (fun i => ?_)
      rw [Nat.zero_testBit]
      by_cases l : i < 12
      · have q := al i l
        rw [bi_tb] at q
        cases c : s.testBit i
        · rfl
        · rw [c] at q
          simp at q
      · exact Nat.testBit_lt_two_pow (Nat.lt_of_lt_of_le h (show 2 ^ 8 ≤ 2 ^ i from Nat.pow_le_pow_right (by decide) (by omega)))
    omega
  · exact z
theorem q149 {I : am_I} {t : Nat → Nat} {p q : Nat} {K : Int32 → Prop} (hp : p < 8) (hq : q < 8) (hP : I 8 p = nI (t p) ∧ t p < 256) (hQ : I 8 q = nI (t q) ∧ t q < 256) (hK : K (b1 (mt t p q))) : w_149 (nI p) (nI q) I K := by
  unfold w_149
  have g1 : ¬ (nI p < 0 ∨ 8 ≤ Int32.toNatClampNeg (nI p)) := nb_gd hp (by decide)
  have g2 : ¬ (nI q < 0 ∨ 8 ≤ Int32.toNatClampNeg (nI q)) := nb_gd hq (by decide)
  refine ⟨g1, ?_⟩
  rw [nI_clamp (by omega : p < 2 ^ 31), hP.1, f20i rfl (by omega) (by omega)]
  have b1' := bi_lt (t p) q
  have b2' := bi_lt (t q) p
  unfold mt at hK
  by_cases c : bi (t p) q = 1
  · rw [if_pos (by rw [c]; rfl)]
    refine ⟨g2, ?_⟩
    rw [nI_clamp (by omega : q < 2 ^ 31), hQ.1, f20i rfl (by omega) (by omega)]
    rw [decide_eq_true c, Bool.true_and] at hK
    by_cases c2 : bi (t q) p = 1
    · rw [if_pos (by rw [c2]; rfl)]
      rw [decide_eq_true c2] at hK
      exact hK
    · rw [if_neg (nz1 (by omega) c2)]
      rw [decide_eq_false c2] at hK
      exact hK
  · rw [if_neg (nz1 (by omega) c)]
    rw [decide_eq_false c, Bool.false_and] at hK
    exact hK
theorem l148a {I : am_I} {m n : Nat} {E : Int32 → Int32 → Prop} (hm : m ≤ 8) (hn : n ≤ 6) (em : I 1 10 = nI m) (hE : E (nI (m ^ n)) (nI n)) : ∀ k j, j + k = n → lw_148_5 (k + 1) (nI n) (nI (m ^ j)) (nI j) I E
  | 0, j, h => by
    have hj : j = n := by omega
    subst hj
    unfold lw_148_5
    rw [if_pos (nI_le (Nat.le_refl _) (by omega))]
    exact hE
  | k + 1, j, h => by
    have ih := l148a hm hn em hE k (j + 1) (by omega)
    unfold lw_148_5
    rw [if_neg (nI_ge (by omega) (by omega)), if_neg (show ¬ (6 : Int32) ≤ nI j from nI_ge (b := 6) (by omega) (by decide)), em, nb_mul, ← Nat.pow_succ, ← nI_succ]
    exact ih
theorem l148c {I : am_I} {t : Nat → Nat} {m p A : Nat} {x2 x3 : Int32} {E : Int32 → Int32 → Prop} (hm : m ≤ 8) (hp : p < m) (em : I 1 10 = nI m) (ht : ∀ q, q < m → I 8 q = nI (t q) ∧ t q < 256) (hE : E (nI (A + fb_ct (prF t p) m)) (nI m)) : ∀ k j, j + k = m → p < j → lw_148_52 (k + 1) x2 x3 (nI (A + fb_ct (prF t p) j)) (nI p) (nI j) I E
  | 0, j, h, _ => by
    have hj : j = m := by omega
    subst hj
    unfold lw_148_52
    rw [em, if_pos (nI_le (Nat.le_refl _) (by omega))]
    exact hE
  | k + 1, j, h, hpj => by
    have ih := l148c (x2 := x2) (x3 := x3) hm hp em ht hE k (j + 1) (by omega) (by omega)
    unfold lw_148_52
    rw [em, if_neg (nI_ge (by omega) (by omega))]
    refine q149 (t := t) (by omega) (by omega) (ht p hp) (ht j (by omega)) ?_
    rw [← nI_succ]
    have ef : prF t p j = mt t p j := by
      unfold prF
      rw [decide_eq_true hpj, Bool.true_and]
    rw [fb_ct_succ, ef] at ih
    cases hb : mt t p j with
    | false =>
      rw [hb] at ih
      refine am_ifp rfl ?_
      rw [show nI (A + fb_ct (prF t p) j) + 0 = nI (A + fb_ct (prF t p) j + 0) from nb_add _ 0]
      exact ih
    | true =>
      rw [hb] at ih
      refine am_ifn (by decide) ?_
      rw [show nI (A + fb_ct (prF t p) j) + 1 = nI (A + fb_ct (prF t p) j + 1) from nb_add _ 1]
      exact ih
theorem l148b {I : am_I} {t : Nat → Nat} {m : Nat} {x2 x3 : Int32} {E : Int32 → Int32 → Prop} (hm : m ≤ 8) (em : I 1 10 = nI m) (ht : ∀ q, q < m → I 8 q = nI (t q) ∧ t q < 256) (hE : E (nI (prs t m)) (nI m)) : ∀ k j, j + k = m → lw_148_37 (k + 1) x2 x3 (nI (fb_sm (fun p => fb_ct (prF t p) m) j)) (nI j) I E
  | 0, j, h => by
    have hj : j = m := by omega
    subst hj
    unfold lw_148_37
    rw [em, if_pos (nI_le (Nat.le_refl _) (by omega))]
    exact hE
  | k + 1, j, h => by
    have ih := l148b (x2 := x2) (x3 := x3) hm em ht hE k (j + 1) (by omega)
    unfold lw_148_37
    rw [em, if_neg (nI_ge (by omega) (by omega)), ← nI_succ]
    have z0 : fb_ct (prF t j) (j + 1) = 0 := fb_ct_zero.mpr (fun q hq => by
      unfold prF
      rw [decide_eq_false (by omega)]
      rfl)
    have z := l148c (I := I) (t := t) (A := fb_sm (fun p => fb_ct (prF t p) m) j) (x2 := x2) (x3 := x3) (E := fun o4 _ => lw_148_37 (k + 1) x2 x3 o4 (nI (j + 1)) I E) hm (show j < m by omega) em ht ih k (j + 1) (by omega) (by omega)
    rw [z0, Nat.add_zero] at z
    exact ⟨k + 1, z⟩
theorem q148 {I : am_I} {t : Nat → Nat} {m n : Nat} {K : Int32 → Prop} (hm : m ≤ 8) (h1 : 1 ≤ n) (hn : n ≤ 6) (em : I 1 10 = nI m) (ht : ∀ q, q < m → I 8 q = nI (t q) ∧ t q < 256) (hK : K (nI (gdn t m n))) : w_148 (nI n) I K := by
  unfold w_148
  refine ⟨n + 1, l148a hm hn em ?_ n 0 (by omega)⟩
  refine ⟨m + 1, l148b hm em ht ?_ m 0 (by omega)⟩
  have g := gdn_eq (t := t) hm h1
  have p2 : 2 ≤ 2 ^ n := by
    have := Nat.pow_le_pow_right (n := 2) (by decide) h1
    omega
  rw [em, q1s n (by omega), show nI (2 ^ n) - 2 = nI (2 ^ n - 2) from nb_sub (b := 2) p2, nb_mul, nb_sub (by omega), nb_sub (by omega), show m ^ n - m - prs t m * (2 ^ n - 2) = gdn t m n by omega]
  exact hK
theorem l151 {I : am_I} {f : Nat → Nat} {n : Nat} {E : Int32 → Int32 → Prop} (hn : n ≤ 6) (hf : ∀ j, j < n → I 56 j = nI (f j) ∧ f j < 8) (hE : E (nI (ks f n)) (nI n)) : ∀ k j, j + k = n → lw_151_5 (k + 1) (nI n) (nI (ks f j)) (nI j) I E
  | 0, j, h => by
    have hj : j = n := by omega
    subst hj
    unfold lw_151_5
    rw [if_pos (nI_le (Nat.le_refl _) (by omega))]
    exact hE
  | k + 1, j, h => by
    have ih := l151 hn hf hE k (j + 1) (by omega)
    obtain ⟨e, l⟩ := hf j (by omega)
    unfold lw_151_5
    rw [if_neg (nI_ge (by omega) (by omega))]
    refine ⟨nb_gd (by omega) (by decide), ?_⟩
    rw [nI_clamp (by omega : j < 2 ^ 31), e, q1s (f j) (by omega), fa_or, ← nI_succ]
    exact ih
theorem q151 {I : am_I} {t f : Nat → Nat} {m n : Nat} {K : Int32 → Prop} (hm : m ≤ 8) (h1 : 1 ≤ n) (hn : n ≤ 6) (ht : ∀ q, q < m → I 8 q = nI (t q) ∧ t q < 256) (hf : ∀ j, j < n → I 56 j = nI (f j) ∧ f j < m) (hK : K (b1 (gd t (ks f n)))) : w_151 (nI n) I K := by
  unfold w_151
  have hf8 : ∀ j, j < n → f j < 8 := fun j hj => by
    have := (hf j hj).2
    omega
  refine ⟨n + 1, l151 hn (fun j hj => ⟨(hf j hj).1, hf8 j hj⟩) ?_ n 0 (by omega)⟩
  have sl := ks_lt hf8 n (Nat.le_refl n)
  have sp := ks_pos (f := f) h1
  have pl := pc_le (ks f n)
  have inm : ∀ y, (ks f n).testBit y = true → y < m := fun y hy => by
    obtain ⟨i, h1, h2⟩ := (ks_tb f y n).mp hy
    rw [← h2]
    exact (hf i h1).2
  rw [q111 (by omega)]
  unfold gd at hK
  by_cases c : pc (ks f n) = 2
  · rw [if_pos (by rw [c]; rfl)]
    rw [if_pos c] at hK
    obtain ⟨a1, a2, a3, a4, a5⟩ := s2_s sl c
    rw [(gr_i sp (by omega)).1, show f_21 (nI (ks f n)) (nI (nz (ks f n))) 0 = nI (sb (ks f n) (nz (ks f n)) 0) from q21 (b := 0) (by omega) (by decide), (gr_i a4 (by omega)).1]
    have i1 : nz (ks f n) < m := inm _ (by rw [a3, Nat.testBit_or, ← a3, Nat.testBit_two_pow]; simp)
    have i2 : hi2 (ks f n) < m := inm _ (by rw [a3, Nat.testBit_or, ← a3, Nat.testBit_two_pow, Nat.testBit_two_pow]; simp)
    refine q149 (t := t) (by omega) a2 (ht _ i1) (ht _ i2) ?_
    show (if b1 (mt t (nz (ks f n)) (hi2 (ks f n))) = 0 then K 1 else K 0)
    cases hb : mt t (nz (ks f n)) (hi2 (ks f n)) with
    | false =>
      rw [hb] at hK
      exact am_ifp rfl hK
    | true =>
      rw [hb] at hK
      exact am_ifn (by decide) hK
  · rw [if_neg (nz2 (by omega) c)]
    rw [if_neg c] at hK
    by_cases c2 : pc (ks f n) ≤ 2
    · rw [if_pos (show nI (pc (ks f n)) ≤ 2 from nI_le (b := 2) c2 (by decide))]
      rw [decide_eq_false (by omega)] at hK
      exact hK
    · rw [if_neg (show ¬ nI (pc (ks f n)) ≤ 2 from nI_ge (a := 2) (by omega) (by omega))]
      rw [decide_eq_true (by omega)] at hK
      exact hK
theorem dg_2 {m n p q j : Nat} (hp : p < m) (hq : q < m) (hn : 2 ≤ n) (hj : j < n) : dg m n (p * m + q) j = if j = n - 1 then q else if j = n - 2 then p else 0 := by
  unfold dg
  have m0 : 0 < m := by omega
  have e1 : (p * m + q) / m = p := by
    rw [Nat.add_comm, Nat.mul_comm, Nat.add_mul_div_left _ _ m0, Nat.div_eq_of_lt hq, Nat.zero_add]
  by_cases c1 : j = n - 1
  · rw [if_pos c1, c1, Nat.sub_self, Nat.pow_zero, Nat.div_one, Nat.add_comm, Nat.mul_comm, Nat.add_mul_mod_self_left, Nat.mod_eq_of_lt hq]
  · rw [if_neg c1]
    by_cases c2 : j = n - 2
    · rw [if_pos c2, c2, show n - 1 - (n - 2) = 1 by omega, Nat.pow_one, e1, Nat.mod_eq_of_lt hp]
    · rw [if_neg c2]
      obtain ⟨k, hk⟩ : ∃ k, n - 1 - j = k + 2 := ⟨n - 1 - j - 2, by omega⟩
      have e2 : m ^ (k + 2) = m * (m * m ^ k) := by
        rw [Nat.pow_succ, Nat.pow_succ, Nat.mul_comm, Nat.mul_comm (m ^ k)]
      rw [hk, e2, ← Nat.div_div_eq_div_mul, e1, ← Nat.div_div_eq_div_mul, Nat.div_eq_of_lt hp, Nat.zero_div, Nat.zero_mod]
theorem l150a {I : am_I} {x : Int32} {E : Int32 → am_I → Prop} (hE : ∀ J, (∀ c, c ≠ 56 → J c = I c) → (∀ y, y < 6 → J 56 y = 0) → E (nI 6) J) : ∀ q j J, j + q = 6 → (∀ c, c ≠ 56 → J c = I c) → (∀ y, y < j → J 56 y = 0) → lw_150_2 (q + 1) x (nI j) J E
  | 0, j, J, h, h1, h2 => by
    have hj : j = 6 := by omega
    subst hj
    unfold lw_150_2
    rw [if_pos (show (6 : Int32) ≤ nI 6 from nI_le (a := 6) (Nat.le_refl _) (by decide))]
    exact hE J h1 h2
  | q + 1, j, J, h, h1, h2 => by
    unfold lw_150_2
    rw [if_neg (show ¬ (6 : Int32) ≤ nI j from nI_ge (b := 6) (by omega) (by decide))]
    refine ⟨nb_gd (by omega) (by decide), ?_⟩
    rw [nI_clamp (by omega), ← nI_succ]
    refine l150a hE q (j + 1) _ (by omega) (fun c hc => by rw [uu_h hc]; exact h1 c hc) (fun y hy => ?_)
    by_cases e : y = j
    · subst e
      exact uu_e
    · rw [uu_n e]
      exact h2 y (by omega)
/-- rows ahead of p, q part nothing -/
theorem l150c {I : am_I} {t : Nat → Nat} {m n p : Nat} {E : Int32 → am_I → Prop} {R : am_I → Prop} (hm : m ≤ 8) (hn : 2 ≤ n) (hn6 : n ≤ 6) (hp : p < m) (em : I 1 10 = nI m) (ht : ∀ q, q < m → I 8 q = nI (t q) ∧ t q < 256)
    (hE : ∀ J, (∀ c, c ≠ 56 → J c = I c) → (∀ j, j < n - 2 → J 56 j = 0) → (∀ c, c < (p + 1) * m → gd t (dst m n c) = false) → E (nI m) J)
    (hR : ∀ J c, (∀ c, c ≠ 56 → J c = I c) → c < m * m → gd t (dst m n c) = true → (∀ c', c' < c → gd t (dst m n c') = false) → (∀ j, j < n → J 56 j = nI (dg m n c j)) → R J) : ∀ k q J, q + k = m → (∀ c, c ≠ 56 → J c = I c) → (∀ j, j < n - 2 → J 56 j = 0) → (∀ c, c < p * m + q → gd t (dst m n c) = false) → lw_150_45 (k + 1) (nI n) (nI p) (nI q) J E R
  | 0, q, J, h, h1, h2, h3 => by
    have hj : q = m := by omega
    subst hj
    unfold lw_150_45
    rw [h1 1 (by decide), em, if_pos (nI_le (Nat.le_refl _) (by omega))]
    exact hE J h1 h2 (fun c hc => h3 c (by rw [Nat.succ_mul] at hc; exact hc))
  | k + 1, q, J, h, h1, h2, h3 => by
    unfold lw_150_45
    rw [h1 1 (by decide), em, if_neg (nI_ge (by omega) (by omega))]
    have x2 : nI n - 2 = nI (n - 2) := nb_sub (b := 2) hn
    have x1 : nI n - 1 = nI (n - 1) := nb_sub (b := 1) (by omega)
    rw [x2, x1]
    refine ⟨nb_gd (by omega) (by decide), nb_gd (by omega) (by decide), ?_⟩
    rw [nI_clamp (by omega : n - 2 < 2 ^ 31), nI_clamp (by omega : n - 1 < 2 ^ 31), ← nI_succ]
    have k1 : ∀ c, c ≠ 56 → am_u (am_u J 56 (n - 2) (nI p)) 56 (n - 1) (nI q) c = I c := fun c hc => by
      rw [uu_h hc, uu_h hc]
      exact h1 c hc
    have k2 : ∀ j, j < n - 2 → am_u (am_u J 56 (n - 2) (nI p)) 56 (n - 1) (nI q) 56 j = 0 := fun j hj => by
      rw [uu_n (by omega), uu_n (by omega)]
      exact h2 j hj
    have k3 : ∀ j, j < n → am_u (am_u J 56 (n - 2) (nI p)) 56 (n - 1) (nI q) 56 j = nI (dg m n (p * m + q) j) := fun j hj => by
      rw [dg_2 hp (by omega) hn hj]
      by_cases c1 : j = n - 1
      · rw [if_pos c1, c1, uu_e]
      · rw [if_neg c1, uu_n c1]
        by_cases c2 : j = n - 2
        · rw [if_pos c2, c2, uu_e]
        · rw [if_neg c2, uu_n c2]
          exact h2 j (by omega)
    generalize am_u (am_u J 56 (n - 2) (nI p)) 56 (n - 1) (nI q) = G at k1 k2 k3
    refine q151 (t := t) (f := dg m n (p * m + q)) (m := m) hm (by omega) hn6 (by rw [k1 8 (by decide)]; exact ht) (fun j hj => ⟨k3 j hj, Nat.mod_lt _ (by omega)⟩) ?_
    rw [ks_dg]
    cases hb : gd t (dst m n (p * m + q)) with
    | false =>
      refine am_ifp rfl (l150c hm hn hn6 hp em ht hE hR k (q + 1) G (by omega) k1 k2 (fun c hc => ?_))
      by_cases e : c = p * m + q
      · rw [e]
        exact hb
      · exact h3 c (by omega)
    | true =>
      refine am_ifn (by decide) (hR G (p * m + q) k1 ?_ hb h3 k3)
      have a : (p + 1) * m ≤ m * m := Nat.mul_le_mul_right m hp
      rw [Nat.succ_mul] at a
      omega
theorem l150b {I : am_I} {t : Nat → Nat} {m n : Nat} {E : Int32 → am_I → Prop} {R : am_I → Prop} (hm : m ≤ 8) (hn : 2 ≤ n) (hn6 : n ≤ 6) (em : I 1 10 = nI m) (ht : ∀ q, q < m → I 8 q = nI (t q) ∧ t q < 256) (hx : ∃ c, c < m * m ∧ gd t (dst m n c) = true)
    (hR : ∀ J c, (∀ c, c ≠ 56 → J c = I c) → c < m * m → gd t (dst m n c) = true → (∀ c', c' < c → gd t (dst m n c') = false) → (∀ j, j < n → J 56 j = nI (dg m n c j)) → R J) : ∀ k p J, p + k = m → (∀ c, c ≠ 56 → J c = I c) → (∀ j, j < n - 2 → J 56 j = 0) → (∀ c, c < p * m → gd t (dst m n c) = false) → lw_150_34 (k + 1) (nI n) (nI p) J E R
  | 0, p, J, h, h1, h2, h3 => by
    have hj : p = m := by omega
    subst hj
    obtain ⟨c, c1, c2⟩ := hx
    rw [h3 c c1] at c2
    cases c2
  | k + 1, p, J, h, h1, h2, h3 => by
    unfold lw_150_34
    rw [h1 1 (by decide), em, if_neg (nI_ge (by omega) (by omega))]
    refine ⟨m + 1, l150c (I := I) (t := t) hm hn hn6 (show p < m by omega) em ht (fun J' g1 g2 g3 => ?_) hR m 0 J (by omega) h1 h2 (fun c hc => h3 c (by omega))⟩
    rw [← nI_succ]
    exact l150b hm hn hn6 em ht hx hR k (p + 1) J' (by omega) g1 g2 g3
/-- the first row that parts, by the class -/
theorem q150 {I : am_I} {t : Nat → Nat} {m n : Nat} {K : am_I → Prop} (hm : m ≤ 8) (hn : 2 ≤ n) (hn6 : n ≤ 6) (em : I 1 10 = nI m) (ht : ∀ q, q < m → I 8 q = nI (t q) ∧ t q < 256) (hx : ∃ c, c < m * m ∧ gd t (dst m n c) = true)
    (hK : ∀ J c, (∀ c, c ≠ 56 → J c = I c) → c < m * m → gd t (dst m n c) = true → (∀ c', c' < c → gd t (dst m n c') = false) → (∀ j, j < n → J 56 j = nI (dg m n c j)) → K J) : w_150 (nI n) I K := by
  unfold w_150
  refine ⟨7, l150a (I := I) (fun J h1 h2 => ?_) 6 0 I (by omega) (fun c _ => rfl) (fun y hy => absurd hy (by omega))⟩
  rcases q13 (nI n) 2 6 (by decide) (by decide) with ⟨a, g⟩ | ⟨a, _⟩
  · exact absurd rfl (g n hn hn6)
  · refine am_ifn (by rw [show f_13 (nI n) 2 6 = 1 from a]; decide) ?_
    exact ⟨m + 1, l150b (I := I) (t := t) hm hn hn6 em ht hx hK m 0 J (by omega) h1 (fun j hj => h2 j (by omega)) (fun c hc => absurd hc (by omega))⟩
