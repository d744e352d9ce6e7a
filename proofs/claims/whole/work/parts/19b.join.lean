/-! two numbers joined, by longs -/
def lim (x : Int) : Prop := -2000000000 ≤ x ∧ x ≤ 2000000000
theorem lim_mul {x y : Int} (hx : lim x) (hy : lim y) : -4000000000000000000 ≤ x * y ∧ x * y ≤ 4000000000000000000 := by
  have a : x.natAbs ≤ 2000000000 := by unfold lim at hx; omega
  have b : y.natAbs ≤ 2000000000 := by unfold lim at hy; omega
  have c : (x * y).natAbs ≤ 4000000000000000000 := by
    rw [Int.natAbs_mul]
    exact Nat.mul_le_mul a b
  omega
theorem lim_div {x y : Int} (hx : lim x) : -2000000000 ≤ x.tdiv y ∧ x.tdiv y ≤ 2000000000 := by
  have a : x.natAbs ≤ 2000000000 := by unfold lim at hx; omega
  have c : (x.tdiv y).natAbs ≤ x.natAbs := by
    rw [Int.natAbs_tdiv]
    exact Nat.div_le_self _ _
  omega
theorem lj_add {a b : Int64} {x y : Int} (ha : a.toInt = x) (hb : b.toInt = y) (hx : lim x) (hy : lim y) : (a + b).toInt = x + y := by
  unfold lim at hx hy
  rw [fb_addL (by rw [ha, hb]; omega) (by rw [ha, hb]; omega), ha, hb]
theorem lj_sub {a b : Int64} {x y : Int} (ha : a.toInt = x) (hb : b.toInt = y) (hx : lim x) (hy : lim y) : (a - b).toInt = x - y := by
  unfold lim at hx hy
  rw [fb_subL (by rw [ha, hb]; omega) (by rw [ha, hb]; omega), ha, hb]
theorem lj_mul {a b : Int64} {x y : Int} (ha : a.toInt = x) (hb : b.toInt = y) (hx : lim x) (hy : lim y) : (a * b).toInt = x * y := by
  have h := lim_mul hx hy
  rw [fb_mulL (by rw [ha, hb]; omega) (by rw [ha, hb]; omega), ha, hb]
theorem lj_div {a b : Int64} {x y : Int} (ha : a.toInt = x) (hb : b.toInt = y) (hx : lim x) : (a / b).toInt = x.tdiv y := by
  have h := lim_div (y := y) hx
  rw [Int64.toInt_div, ha, hb, fb_bmodL (by omega) (by omega)]
theorem lj_mod {a b : Int64} {x y : Int} (ha : a.toInt = x) (hb : b.toInt = y) (hx : lim x) (hy : lim y) : (a - a / b * b).toInt = x.tmod y := by
  have h := lim_div (y := y) hx
  have d := lj_div ha hb hx
  have m := lj_mul (a := a / b) (b := b) d hb h hy
  have e : x.tmod y = x - x.tdiv y * y := by
    rw [Int.tmod_def, Int.mul_comm]
  have ml := lim_mul (x := x.tdiv y) (y := y) h hy
  unfold lim at hx
  rw [fb_subL (by rw [ha, m]; omega) (by rw [ha, m]; omega), ha, m, e]
theorem lc_lt' {a b : Int64} {x y : Int} (ha : a.toInt = x) (hb : b.toInt = y) : lg_cmp a b < 0 ↔ x < y := by
  rw [lc_lt, Int64.lt_iff_toInt_lt, ha, hb]
theorem lc_gt' {a b : Int64} {x y : Int} (ha : a.toInt = x) (hb : b.toInt = y) : 0 < lg_cmp a b ↔ y < x := by
  rw [lc_gt, Int64.lt_iff_toInt_lt, ha, hb]
theorem lc_eq' {a b : Int64} {x y : Int} (ha : a.toInt = x) (hb : b.toInt = y) : lg_cmp a b = 0 ↔ x = y := by
  rw [lc_eq, fa_eq64, ha, hb]
theorem i0le (c : Int32) : 0 ≤ c ↔ ¬ c < 0 := by
  rw [fa_le, fa_lt]
  omega
theorem ile0 (c : Int32) : c ≤ 0 ↔ ¬ 0 < c := by
  rw [fa_le, fa_lt]
  omega
theorem o_cases {o : Nat} (h1 : 4 ≤ o) (h2 : o < 12) : o = 4 ∨ o = 5 ∨ o = 6 ∨ o = 7 ∨ o = 8 ∨ o = 9 ∨ o = 10 ∨ o = 11 := by omega
theorem q90j {o : Nat} {a b : Int64} {x y : Int} {J : am_I} {K : Int32 → am_I → Prop} (h1 : 4 ≤ o) (h2 : o < 12) (ha : a.toInt = x) (hb : b.toInt = y) (hx : lim x) (hy : lim y) (hz : ¬ ((o = 7 ∨ o = 8) ∧ y = 0)) (hK : ∀ v : Int64, v.toInt = jv o x y → wb_90_215 v J K) : wb_90_58 (nI o) a b J K := by
  unfold wb_90_58
  rcases o_cases h1 h2 with rfl | rfl | rfl | rfl | rfl | rfl | rfl | rfl
  · rw [if_pos (by decide)]
    exact hK _ (lj_add ha hb hx hy)
  · rw [if_neg (by decide), if_pos (by decide)]
    exact hK _ (lj_sub ha hb hx hy)
  · rw [if_neg (by decide), if_neg (by decide), if_pos (by decide)]
    exact hK _ (lj_mul ha hb hx hy)
  · have y0 : ¬ y = 0 := fun q => hz ⟨Or.inl rfl, q⟩
    rw [if_neg (by decide), if_neg (by decide), if_neg (by decide), if_pos (by decide), if_neg (fun q => y0 ((lc_eq' hb (show Int64.toInt 0 = 0 from rfl)).mp q))]
    refine ⟨fun q => y0 ?_, hK _ (lj_div ha hb hx)⟩
    rw [← hb, q]
    rfl
  · have y0 : ¬ y = 0 := fun q => hz ⟨Or.inr rfl, q⟩
    rw [if_neg (by decide), if_neg (by decide), if_neg (by decide), if_neg (by decide), if_pos (by decide), if_neg (fun q => y0 ((lc_eq' hb (show Int64.toInt 0 = 0 from rfl)).mp q))]
    refine ⟨fun q => y0 ?_, hK _ (lj_mod ha hb hx hy)⟩
    rw [← hb, q]
    rfl
  · rw [if_neg (by decide), if_neg (by decide), if_neg (by decide), if_neg (by decide), if_neg (by decide), if_pos (by decide)]
    by_cases c : x < y
    · rw [if_neg (by rw [i0le, lc_lt' ha hb]; exact fun q => q c)]
      exact hK 1 (by show (1 : Int) = (if x < y then 1 else 0); rw [if_pos c])
    · rw [if_pos (by rw [i0le, lc_lt' ha hb]; exact c)]
      exact hK 0 (by show (0 : Int) = (if x < y then 1 else 0); rw [if_neg c])
  · rw [if_neg (by decide), if_neg (by decide), if_neg (by decide), if_neg (by decide), if_neg (by decide), if_neg (by decide), if_pos (by decide)]
    by_cases c : y < x
    · rw [if_neg (by rw [ile0, lc_gt' ha hb]; exact fun q => q c)]
      exact hK 1 (by show (1 : Int) = (if y < x then 1 else 0); rw [if_pos c])
    · rw [if_pos (by rw [ile0, lc_gt' ha hb]; exact c)]
      exact hK 0 (by show (0 : Int) = (if y < x then 1 else 0); rw [if_neg c])
  · rw [if_neg (by decide), if_neg (by decide), if_neg (by decide), if_neg (by decide), if_neg (by decide), if_neg (by decide), if_neg (by decide)]
    by_cases c : x = y
    · rw [if_pos ((lc_eq' ha hb).mpr c)]
      exact hK 1 (by show (1 : Int) = (if x = y then 1 else 0); rw [if_pos c])
    · rw [if_neg (fun q => c ((lc_eq' ha hb).mp q))]
      exact hK 0 (by show (0 : Int) = (if x = y then 1 else 0); rw [if_neg c])
theorem l2i {v : Int64} {z : Int} (e : v.toInt = z) (h1 : -2147483648 ≤ z) (h2 : z < 2147483648) : Int64.toInt32 v = Int32.ofInt z := by
  apply Int32.toInt_inj.mp
  rw [Int64.toInt_toInt32, fb_ofI h1 h2, e]
  exact fb_bmod h1 h2
theorem q90k {v : Int64} {z : Int} {h : Nat} {J : am_I} {K : Int32 → am_I → Prop} (e : v.toInt = z) (h2 : 2 ≤ h) (h3 : h ≤ 32) (eh : J 24 3 = nI h) (k0 : (1000000000 < z ∨ z < -1000000000) → K 0 J) (k1 : ¬ (1000000000 < z ∨ z < -1000000000) → K 1 (am_u (am_u J 24 3 (nI (h - 1))) 26 (h - 2) (Int32.ofInt z))) : wb_90_215 v J K := by
  unfold wb_90_215
  by_cases c1 : 1000000000 < z
  · rw [if_pos ((lc_gt' e (show Int64.toInt 1000000000 = 1000000000 from rfl)).mpr c1)]
    exact k0 (Or.inl c1)
  · rw [if_neg (fun q => c1 ((lc_gt' e (show Int64.toInt 1000000000 = 1000000000 from rfl)).mp q))]
    by_cases c2 : z < -1000000000
    · rw [if_neg (by rw [i0le, lc_lt' e (show Int64.toInt (-1000000000) = -1000000000 from rfl)]; exact fun q => q c2)]
      exact k0 (Or.inr c2)
    · rw [if_pos (by rw [i0le, lc_lt' e (show Int64.toInt (-1000000000) = -1000000000 from rfl)]; exact c2)]
      have x1 : J 24 3 - 1 = nI (h - 1) := by
        rw [eh]
        exact nb_sub (b := 1) (by omega)
      have x2 : nI (h - 1) - 1 = nI (h - 2) := by
        rw [show h - 2 = h - 1 - 1 by omega]
        exact nb_sub (b := 1) (by omega)
      rw [x1, x2]
      refine ⟨nb_gd (by omega) (by decide), ?_⟩
      rw [nI_clamp (by omega : h - 2 < 2 ^ 31), l2i e (by omega) (by omega)]
      exact k1 (by omega)
/-! the class's pile -/
def STk (B : Int) (m : Nat → Int32) : List Int → Prop
  | [] => True
  | x :: t => m t.length = Int32.ofInt x ∧ -B ≤ x ∧ x ≤ B ∧ STk B m t
theorem STk_cg {B B' : Int} {m m' : Nat → Int32} (hB : B ≤ B') : ∀ {t : List Int}, STk B m t → (∀ i, i < t.length → m' i = m i) → STk B' m' t
  | [], _, _ => trivial
  | x :: t, h, e => by
    obtain ⟨h1, h2, h3, h4⟩ := h
    refine ⟨(e _ (by rw [List.length_cons]; omega)).trans h1, by omega, by omega, STk_cg hB h4 (fun i hi => e i (by rw [List.length_cons]; omega))⟩
/-- what the class reads of the code and of the words -/
def CWd (I : am_I) (C : Nat → Nat × Nat) (e : Nat → Nat → Int) (m k : Nat) : Prop := (C k).1 < 15 ∧ (C k).2 ≤ 100000 ∧ ((C k).1 = 1 → (C k).2 < 14 ∧ -1000000000 ≤ e 1 (C k).2 ∧ e 1 (C k).2 ≤ 1000000000 ∧ I 25 (C k).2 = Int32.ofInt (e 1 (C k).2)) ∧ ((C k).1 = 2 → (C k).2 < 8 ∧ e 2 (C k).2 = (if m ≤ (C k).2 then -1 else (I 6 (C k).2).toInt) ∧ ((C k).2 < m → ∃ x, x < 10 ∧ I 6 (C k).2 = nI x)) ∧ ((C k).1 = 3 → (C k).2 < 96 ∧ e 3 (C k).2 = (if m ≤ (C k).2 / 12 then -1 else (bi (Int32.toNatClampNeg (I 7 ((C k).2 / 12))) ((C k).2 % 12) : Int)) ∧ ((C k).2 / 12 < m → ∃ x, x < 4096 ∧ I 7 ((C k).2 / 12) = nI x))
theorem ofI_nI (n : Nat) : Int32.ofInt (n : Int) = nI n := rfl
theorem q89 {J : am_I} {C : Nat → Nat × Nat} {e : Nat → Nat → Int} {m k h : Nat} {K : Int32 → am_I → Prop} (hm : m ≤ 8) (em : J 1 10 = nI m) (hC : CWd J C e m k) (ho : (C k).1 < 4) (hh : h < 32) (eh : J 24 3 = nI h) (hK : -1000000000 ≤ lv e (C k).1 (C k).2 → lv e (C k).1 (C k).2 ≤ 1000000000 → K 1 (am_u (am_u J 26 h (Int32.ofInt (lv e (C k).1 (C k).2))) 24 3 (nI (h + 1)))) : w_89 (nI (C k).1) (nI (C k).2) J K := by
  obtain ⟨c1, c2, c3, c4, c5⟩ := hC
  generalize (C k).1 = o at *
  generalize (C k).2 = w at *
  have g32 : ¬ (J 24 3 < 0 ∨ 32 ≤ Int32.toNatClampNeg (J 24 3)) := nb_gdx eh (by omega) (by decide)
  have l32 : J 24 3 < 32 := by
    rw [eh]
    exact (nb_lt (b := 32) (by omega) (by decide)).mpr hh
  have s1 : J 24 3 + 1 = nI (h + 1) := by rw [eh, ← nI_succ]
  have kh : Int32.toNatClampNeg (J 24 3) = h := nb_cl eh (by omega)
  unfold w_89
  rw [kh, s1]
  rw [kh] at g32
  rcases (by omega : o = 0 ∨ o = 1 ∨ o = 2 ∨ o = 3) with rfl | rfl | rfl | rfl
  · rw [if_neg (by decide), if_neg (by decide), if_neg (by decide), if_pos l32]
    exact ⟨g32, hK (by show -1000000000 ≤ (w : Int); omega) (by show (w : Int) ≤ 1000000000; omega)⟩
  · obtain ⟨w1, w2, w3, w4⟩ := c3 rfl
    rw [if_pos (by decide), if_neg (show ¬ Int32.ofNat 14 ≤ nI w from nI_ge (b := 14) w1 (by decide))]
    refine ⟨nb_gd w1 (by decide), ?_⟩
    rw [if_pos l32, nI_clamp (by omega : w < 2 ^ 31), w4]
    exact ⟨g32, hK w2 w3⟩
  · obtain ⟨w1, w2, w3⟩ := c4 rfl
    rw [if_neg (by decide), if_pos (by decide), em]
    have e2 : lv e 2 w = (if m ≤ w then -1 else (J 6 w).toInt) := w2
    by_cases c : m ≤ w
    · rw [if_pos c] at e2
      rw [if_pos (nI_le c (by omega)), if_pos l32]
      rw [e2] at hK
      exact ⟨g32, hK (by decide) (by decide)⟩
    · rw [if_neg c] at e2
      obtain ⟨x, hx, ex⟩ := w3 (by omega)
      rw [if_neg (nI_ge (by omega) (by omega))]
      refine ⟨nb_gd w1 (by decide), ?_⟩
      rw [if_pos l32, nI_clamp (by omega : w < 2 ^ 31), ex]
      rw [e2, ex, nI_toInt (by omega), ofI_nI] at hK
      exact ⟨g32, hK (by omega) (by omega)⟩
  · obtain ⟨w1, w2, w3⟩ := c5 rfl
    have d12 : nI w / 12 = nI (w / 12) := pk_div (d := 12) (by omega) (by decide) (by decide)
    have m12 : nI w - nI (w / 12) * 12 = nI (w % 12) := by
      rw [← d12]
      exact pk_rem (d := 12) (by omega) (by decide) (by decide)
    rw [if_neg (by decide), if_neg (by decide), if_pos (by decide), em, d12]
    have e2 : lv e 3 w = (if m ≤ w / 12 then -1 else (bi (Int32.toNatClampNeg (J 7 (w / 12))) (w % 12) : Int)) := w2
    by_cases c : m ≤ w / 12
    · rw [if_pos c] at e2
      rw [if_pos (nI_le c (by omega)), if_pos l32]
      rw [e2] at hK
      exact ⟨g32, hK (by decide) (by decide)⟩
    · rw [if_neg c] at e2
      obtain ⟨x, hx, ex⟩ := w3 (by omega)
      rw [if_neg (nI_ge (by omega) (by omega))]
      refine ⟨nb_gd (by omega) (by decide), ?_⟩
      rw [if_pos l32, nI_clamp (by omega : w / 12 < 2 ^ 31), ex, m12]
      have q := q20 (w := x) (d := w % 12) (by omega) (by omega)
      unfold f_20 at q
      rw [q]
      rw [e2, ex, nI_clamp (by omega), ofI_nI] at hK
      have bl := bi_lt x (w % 12)
      exact ⟨g32, hK (by omega) (by omega)⟩
