/-! parted, by the reference -/
theorem exb_no {P : Nat → Bool} : ∀ {n : Nat}, (∀ k, k < n → P k = false) → exb P n = false
  | 0, _ => rfl
  | n + 1, h => by
    show (exb P n || P n) = false
    rw [exb_no (fun k hk => h k (by omega)), h n (by omega)]
    rfl
theorem q249 {I : am_I} {t : Nat → Nat} {p q : Nat} {K : Int32 → Prop} (hp : p < 8) (hq : q < 8) (hP : I 68 (42 + p) = nI (t p) ∧ t p < 256) (hK : K (b1 (decide (bi (t p) q = 1)))) : w_249 (nI p) (nI q) I K := by
  unfold w_249
  obtain ⟨g4, k4⟩ := ixa (a := 42) (n := p) (by omega)
  have k4 : Int32.toNatClampNeg (42 + nI p) = 42 + p := k4
  refine ⟨g4, ?_⟩
  rw [k4, hP.1]
  rcases f248i (x := nI (t p)) (d := q) rfl (by omega) (by omega) with ⟨f1, f2⟩ | ⟨f1, f2⟩
  · rw [f1]
    rw [decide_eq_false (by omega)] at hK
    exact ⟨Or.inl rfl, hK⟩
  · rw [f1]
    rw [decide_eq_true f2] at hK
    exact ⟨Or.inr rfl, hK⟩
theorem l280a {I : am_I} {f : Nat → Nat} {n : Nat} {E : Int32 → Int32 → Prop} (hn : n ≤ 6) (hf : ∀ j, j < n → I 93 j = nI (f j) ∧ f j < 8) (hE : E (nI (ks f n)) (nI n)) : ∀ k j, j + k = n → lw_280_4 (k + 1) (nI n) (nI (ks f j)) (nI j) I E
  | 0, j, h => by
    have hj : j = n := by omega
    subst hj
    unfold lw_280_4
    rw [if_pos (nI_le (Nat.le_refl _) (by omega))]
    exact hE
  | k + 1, j, h => by
    have ih := l280a hn hf hE k (j + 1) (by omega)
    obtain ⟨e, l⟩ := hf j (by omega)
    unfold lw_280_4
    rw [if_neg (nI_ge (by omega) (by omega))]
    refine ⟨nb_gd (by omega) (by decide), ?_⟩
    rw [nI_clamp (by omega : j < 2 ^ 31), e, q1s (f j) (by omega), fa_or, ← nI_succ]
    exact ih
def pkb (t : Nat → Nat) (s a b : Nat) : Bool := decide (bi s a = 1) && (decide (bi s b = 1) && mt t a b)
theorem l280c {I : am_I} {t : Nat → Nat} {s a : Nat} {X : Bool} {E : Int32 → Int32 → Prop} (hs : s < 256) (ha : a < 8) (ht : ∀ q, q ≤ a → I 68 (42 + q) = nI (t q) ∧ t q < 256) (hE : E (b1 (!(X || exb (pkb t s a) a))) (nI a)) : ∀ k j, j + k = a → lw_280_63 (k + 1) (nI s) (b1 (!(X || exb (pkb t s a) j))) (nI a) (nI j) I E
  | 0, j, h => by
    have hj : j = a := by omega
    subst hj
    unfold lw_280_63
    rw [if_pos (nI_le (Nat.le_refl _) (by omega))]
    exact hE
  | k + 1, j, h => by
    have ih := l280c (X := X) hs ha ht hE k (j + 1) (by omega)
    unfold lw_280_63
    rw [if_neg (nI_ge (by omega) (by omega)), ← nI_succ]
    have ex : exb (pkb t s a) (j + 1) = (exb (pkb t s a) j || pkb t s a j) := rfl
    rw [ex, ← Bool.or_assoc] at ih
    cases hb : (X || exb (pkb t s a) j) with
    | true =>
      rw [hb] at ih
      rw [if_pos (show b1 (!true) = 0 from rfl)]
      exact ih
    | false =>
      rw [hb, Bool.false_or] at ih
      rw [if_neg (show ¬ b1 (!false) = 0 by decide)]
      unfold pkb at ih
      rcases f248i (x := nI s) (d := a) rfl (by omega) (by omega) with ⟨f1, f2⟩ | ⟨f1, f2⟩
      · rw [if_pos f1]
        rw [decide_eq_false (by omega)] at ih
        exact ih
      rw [if_neg (by rw [f1]; decide)]
      rw [decide_eq_true f2, Bool.true_and] at ih
      rcases f248i (x := nI s) (d := j) rfl (by omega) (by omega) with ⟨f3, f4⟩ | ⟨f3, f4⟩
      · rw [if_pos f3]
        rw [decide_eq_false (by omega)] at ih
        exact ih
      rw [if_neg (by rw [f3]; decide)]
      rw [decide_eq_true f4, Bool.true_and] at ih
      unfold mt at ih
      refine q249 (t := t) ha (by omega) (ht a (Nat.le_refl a)) ?_
      by_cases c1 : bi (t a) j = 1
      · rw [decide_eq_true c1, Bool.true_and] at ih
        refine am_ifn (by rw [decide_eq_true c1]; decide) ?_
        refine q249 (t := t) (by omega) ha (ht j (by omega)) ?_
        by_cases c2 : bi (t j) a = 1
        · rw [decide_eq_true c2] at ih
          exact am_ifn (by rw [decide_eq_true c2]; decide) ih
        · rw [decide_eq_false c2] at ih
          exact am_ifp (by rw [decide_eq_false c2]; rfl) ih
      · rw [decide_eq_false c1, Bool.false_and] at ih
        exact am_ifp (by rw [decide_eq_false c1]; rfl) ih
theorem l280b {I : am_I} {t : Nat → Nat} {s m : Nat} {E : Int32 → Int32 → Prop} (hs : s < 256) (hm : m ≤ 8) (h2 : pc s = 2) (em : I 68 1 = nI m) (ht : ∀ q, q < m → I 68 (42 + q) = nI (t q) ∧ t q < 256) (hE : E (b1 (!exb (fun a => exb (pkb t s a) a) m)) (nI m)) : ∀ k j, j + k = m → lw_280_41 (k + 1) (nI s) (b1 (!exb (fun a => exb (pkb t s a) a) j)) (nI j) I E
  | 0, j, h => by
    have hj : j = m := by omega
    subst hj
    unfold lw_280_41
    rw [em, if_pos (nI_le (Nat.le_refl _) (by omega))]
    exact hE
  | k + 1, j, h => by
    have ih := l280b hs hm h2 em ht hE k (j + 1) (by omega)
    unfold lw_280_41
    rw [em, if_neg (nI_ge (by omega) (by omega)), ← nI_succ]
    refine q236 (by omega) ?_
    refine am_ifp (by rw [h2]; rfl) ?_
    have z := l280c (I := I) (t := t) (s := s) (a := j) (X := exb (fun a => exb (pkb t s a) a) j) (E := fun o7 _ => lw_280_41 (k + 1) (nI s) o7 (nI (j + 1)) I E) hs (by omega) (fun q hq => ht q (by omega)) ih j 0 (by omega)
    rw [show exb (pkb t s j) 0 = false from rfl, Bool.or_false] at z
    exact ⟨j + 1, z⟩
theorem q280 {I : am_I} {t f : Nat → Nat} {m n : Nat} {K : Int32 → Prop} (hm : m ≤ 8) (h1 : 1 ≤ n) (hn : n ≤ 6) (em : I 68 1 = nI m) (ht : ∀ q, q < m → I 68 (42 + q) = nI (t q) ∧ t q < 256) (hf : ∀ j, j < n → I 93 j = nI (f j) ∧ f j < m) (hK : K (b1 (gd t (ks f n)))) : w_280 (nI n) I K := by
  unfold w_280
  have hf8 : ∀ j, j < n → f j < 8 := fun j hj => by
    have := (hf j hj).2
    omega
  refine ⟨n + 1, l280a hn (fun j hj => ⟨(hf j hj).1, hf8 j hj⟩) ?_ n 0 (by omega)⟩
  have sl := ks_lt hf8 n (Nat.le_refl n)
  have sp := ks_pos (f := f) h1
  have pl := pc_le (ks f n)
  have pp := pc_pos sl sp
  have inm : ∀ y, (ks f n).testBit y = true → y < m := fun y hy => by
    obtain ⟨i, h1, h2⟩ := (ks_tb f y n).mp hy
    rw [← h2]
    exact (hf i h1).2
  have m1 : 1 ≤ m := by
    have := (hf 0 (by omega)).2
    omega
  refine q236 (by omega) ?_
  by_cases c1 : pc (ks f n) = 1
  · refine am_ifp (by rw [c1]; rfl) ?_
    rw [gd_1 (by omega)] at hK
    exact hK
  · refine am_ifn (nz1 (by omega) c1) ?_
    by_cases c : pc (ks f n) = 2
    · refine ⟨m + 1, l280b (I := I) (t := t) sl hm c em ht ⟨b1_01 _, ?_⟩ m 0 (by omega)⟩
      obtain ⟨a1, a2, a3, a4, a5⟩ := s2_s sl c
      have tb : ∀ y, bi (ks f n) y = 1 ↔ y = nz (ks f n) ∨ y = hi2 (ks f n) := by
        intro y
        rw [bi_1]
        conv => lhs; rw [a3]
        rw [Nat.testBit_or, Nat.testBit_two_pow, Nat.testBit_two_pow]
        simp only [Bool.or_eq_true, decide_eq_true_eq]
        constructor
        · rintro (g | g)
          · exact Or.inl g.symm
          · exact Or.inr g.symm
        · rintro (g | g)
          · exact Or.inl g.symm
          · exact Or.inr g.symm
      have i2 : hi2 (ks f n) < m := inm _ (bi_1.mp ((tb _).mpr (Or.inr rfl)))
      have e : exb (fun a => exb (pkb t (ks f n) a) a) m = mt t (nz (ks f n)) (hi2 (ks f n)) := by
        cases hb : mt t (nz (ks f n)) (hi2 (ks f n)) with
        | true =>
          refine exb_in (k := hi2 (ks f n)) ?_ i2
          refine exb_in (k := nz (ks f n)) ?_ a1
          unfold pkb
          rw [decide_eq_true ((tb _).mpr (Or.inr rfl)), decide_eq_true ((tb _).mpr (Or.inl rfl)), mt_s, hb]
          rfl
        | false =>
          refine exb_no (fun a ha => exb_no (fun b hb' => ?_))
          unfold pkb
          by_cases q1 : bi (ks f n) a = 1
          · by_cases q2 : bi (ks f n) b = 1
            · rcases (tb a).mp q1 with r1 | r1
              · rcases (tb b).mp q2 with r2 | r2
                · omega
                · omega
              · rcases (tb b).mp q2 with r2 | r2
                · rw [r1, r2, mt_s, hb, Bool.and_false, Bool.and_false]
                · omega
            · rw [decide_eq_false q2, Bool.false_and, Bool.and_false]
          · rw [decide_eq_false q1, Bool.false_and]
      rw [e]
      unfold gd at hK
      rw [if_pos c] at hK
      exact hK
    · rw [gd_3 (by omega)] at hK
      refine ⟨1, ?_⟩
      unfold lw_280_41
      rw [em, if_neg (show ¬ nI m ≤ 0 from nI_ge (a := 0) (by omega) (by omega))]
      refine q236 (by omega) ?_
      refine am_ifn (nz2 (by omega) c) ?_
      exact ⟨Or.inr rfl, hK⟩
theorem l279a {I : am_I} {m n : Nat} {E : Int32 → Int32 → Prop} (hn : n ≤ 6) (em : I 68 1 = nI m) (hE : E (nI (m ^ n)) (nI n)) : ∀ k j, j + k = n → lw_279_4 (k + 1) (nI n) (nI (m ^ j)) (nI j) I E
  | 0, j, h => by
    have hj : j = n := by omega
    subst hj
    unfold lw_279_4
    rw [if_pos (nI_le (Nat.le_refl _) (by omega))]
    exact hE
  | k + 1, j, h => by
    have ih := l279a hn em hE k (j + 1) (by omega)
    unfold lw_279_4
    rw [if_neg (nI_ge (by omega) (by omega)), em, nb_mul, ← Nat.pow_succ, ← nI_succ]
    exact ih
/-- a row's keepers, from the last -/
theorem l279d {I : am_I} {m n c : Nat} {x1 x2 x3 x4 : Int32} {E : Int32 → Int32 → am_I → Prop} (hm : 0 < m) (hm8 : m ≤ 8) (hn : n ≤ 6) (hc : c < 2 ^ 30) (em : I 68 1 = nI m) (hE : ∀ J v w, (∀ c, c ≠ 93 → J c = I c) → (∀ j, j < n → J 93 j = nI (dg m n c j)) → E v w J) : ∀ k J w, w = nI k + (-1) → k ≤ n → (∀ c, c ≠ 93 → J c = I c) → (∀ j, k ≤ j → j < n → J 93 j = nI (dg m n c j)) → lw_279_44 (k + 1) x1 x2 x3 x4 (nI (c / m ^ (n - k))) w J E
  | 0, J, w, hw, hk, h1, h2 => by
    unfold lw_279_44
    rw [if_pos (by rw [hw]; decide)]
    exact hE J _ _ h1 (fun j hj => h2 j (by omega) hj)
  | k + 1, J, w, hw, hk, h1, h2 => by
    have e : w = nI k := by
      rw [hw, Int32.add_neg_eq_sub]
      exact nb_sub (a := k + 1) (b := 1) (by omega)
    have ql : c / m ^ (n - (k + 1)) ≤ c := Nat.div_le_self _ _
    unfold lw_279_44
    rw [e, if_neg (nI_pos (by omega)), h1 68 (by decide), em]
    have m0 : ¬ nI m = 0 := fun q => by
      have := (nb_inj (b := 0) (by omega) (by decide)).mp q
      omega
    refine ⟨m0, nb_gd (by omega) (by decide), m0, ?_⟩
    rw [nI_clamp (by omega : k < 2 ^ 31), pk_rem (by omega) hm (by omega), pk_div (by omega) hm (by omega), Nat.div_div_eq_div_mul, ← Nat.pow_succ, show (n - (k + 1)).succ = n - k by omega]
    generalize hq : nI k + (-1) = w'
    refine l279d (x1 := x1) (x2 := x2) (x3 := x3) (x4 := x4) hm hm8 hn hc em hE k _ w' hq.symm (by omega) (fun c hc => by rw [uu_h hc]; exact h1 c hc) (fun j j1 j2 => ?_)
    by_cases ej : j = k
    · subst ej
      rw [uu_e]
      unfold dg
      rw [show n - 1 - j = n - (j + 1) by omega]
    · rw [uu_n ej]
      exact h2 j (by omega) j2
theorem l279e {I : am_I} {n : Nat} {x2 x4 : Int32} {E : Int32 → am_I → Prop} (hn : n ≤ 6) (hE : ∀ J v, (∀ c, c ≠ 94 → J c = I c) → (∀ j, j < n → J 94 j = I 93 j) → E v J) : ∀ k j J, j + k = n → (∀ c, c ≠ 94 → J c = I c) → (∀ i, i < j → J 94 i = I 93 i) → lw_279_93 (k + 1) (nI n) x2 0 x4 (nI j) J E
  | 0, j, J, h, h1, h2 => by
    have hj : j = n := by omega
    subst hj
    unfold lw_279_93
    rw [if_pos (nI_le (Nat.le_refl _) (by omega))]
    exact hE J _ h1 h2
  | k + 1, j, J, h, h1, h2 => by
    unfold lw_279_93
    rw [if_neg (nI_ge (by omega) (by omega)), if_pos rfl]
    refine ⟨nb_gd (by omega) (by decide), nb_gd (by omega) (by decide), ?_⟩
    rw [nI_clamp (by omega : j < 2 ^ 31), ← nI_succ]
    refine l279e (x2 := x2) (x4 := x4) hn hE k (j + 1) _ (by omega) (fun c hc => by rw [uu_h hc]; exact h1 c hc) (fun i hi => ?_)
    by_cases ej : i = j
    · subst ej
      rw [uu_e, h1 93 (by decide)]
    · rw [uu_n ej]
      exact h2 i (by omega)
def fstK (t : Nat → Nat) (m n c : Nat) (J : am_I) : Prop := fb_ct (fun c => gd t (dst m n c)) c = 0 ∨ ∃ c0, c0 < c ∧ gd t (dst m n c0) = true ∧ (∀ c', c' < c0 → gd t (dst m n c') = false) ∧ ∀ j, j < n → J 94 j = nI (dg m n c0 j)
theorem l279b {I : am_I} {t : Nat → Nat} {m n : Nat} {E : Int32 → Int32 → am_I → Prop} (hm : m ≤ 8) (h1 : 1 ≤ n) (hn : n ≤ 6) (em : I 68 1 = nI m) (ht : ∀ q, q < m → I 68 (42 + q) = nI (t q) ∧ t q < 256) (hE : ∀ J, (∀ c, c ≠ 93 → c ≠ 94 → J c = I c) → fstK t m n (m ^ n) J → E (nI (gdn t m n)) (nI (m ^ n)) J) : ∀ k c J, c + k = m ^ n → (∀ c, c ≠ 93 → c ≠ 94 → J c = I c) → fstK t m n c J → lw_279_29 (k + 1) (nI n) (nI (m ^ n)) (nI (fb_ct (fun c => gd t (dst m n c)) c)) (nI c) J E
  | 0, c, J, h, hJ, hf => by
    have hj : c = m ^ n := by omega
    subst hj
    have ml := gdn_le (t := t) hm hn
    unfold lw_279_29
    rw [if_pos (nI_le (Nat.le_refl _) (by omega))]
    exact hE J hJ hf
  | k + 1, c, J, h, hJ, hf => by
    have ml := gdn_le (t := t) hm hn
    have m0 : 0 < m := by
      rcases Nat.eq_zero_or_pos m with z | z
      · subst z
        obtain ⟨i, rfl⟩ : ∃ i, n = i + 1 := ⟨n - 1, by omega⟩
        rw [Nat.pow_succ, Nat.mul_zero] at h
        omega
      · exact z
    have cl := fb_ct_le (fun c => gd t (dst m n c)) c
    have ih := l279b hm h1 hn em ht hE k (c + 1)
    unfold lw_279_29
    rw [if_neg (nI_ge (by omega) (by omega)), ← nI_succ]
    have z := l279d (I := J) (m := m) (n := n) (c := c) (x1 := nI n) (x2 := nI (m ^ n)) (x3 := nI (fb_ct (fun c => gd t (dst m n c)) c)) (x4 := nI c) (E := fun o3 o4 I5 => w_280 (nI n) I5 (fun q6 => if q6 = 0 then lw_279_29 (k + 1) (nI n) (nI (m ^ n)) (nI (fb_ct (fun c => gd t (dst m n c)) c)) (nI (c + 1)) I5 E else ∃ n93, lw_279_93 n93 (nI n) (nI (m ^ n)) (nI (fb_ct (fun c => gd t (dst m n c)) c)) (nI c) 0 I5 (fun o7 I8 => lw_279_29 (k + 1) (nI n) (nI (m ^ n)) (nI (fb_ct (fun c => gd t (dst m n c)) c) + 1) (nI (c + 1)) I8 E))) m0 hm hn (by omega) (by rw [hJ 68 (by decide) (by decide)]; exact em) (fun G v w g1 g2 => ?_) n J (nI n - 1) (by rw [Int32.add_neg_eq_sub]) (Nat.le_refl n) (fun c _ => rfl) (fun j j1 j2 => absurd j1 (by omega))
    · rw [Nat.sub_self, Nat.pow_zero, Nat.div_one] at z
      exact ⟨n + 1, z⟩
    · have G68 : G 68 = I 68 := (g1 68 (by decide)).trans (hJ 68 (by decide) (by decide))
      have kG : ∀ c, c ≠ 93 → c ≠ 94 → G c = I c := fun c c1 c2 => (g1 c c1).trans (hJ c c1 c2)
      refine q280 (t := t) (f := dg m n c) (m := m) hm h1 hn (by rw [G68]; exact em) (by rw [G68]; exact ht) (fun j hj => ⟨g2 j hj, Nat.mod_lt _ m0⟩) ?_
      rw [ks_dg]
      have G94 : ∀ j, G 94 j = J 94 j := fun j => by rw [g1 94 (by decide)]
      rw [fb_ct_succ] at ih
      cases hb : gd t (dst m n c) with
      | false =>
        rw [hb] at ih
        refine am_ifp rfl (ih G (by omega) kG ?_)
        rcases hf with f0 | ⟨c0, f1, f2, f3, f4⟩
        · refine Or.inl ?_
          rw [fb_ct_succ, hb, f0]
          rfl
        · exact Or.inr ⟨c0, by omega, f2, f3, fun j hj => by rw [G94]; exact f4 j hj⟩
      | true =>
        rw [hb] at ih
        refine am_ifn (by decide) ?_
        rcases hf with f0 | ⟨c0, f1, f2, f3, f4⟩
        · rw [f0] at ih ⊢
          refine ⟨n + 1, l279e (I := G) (n := n) hn (fun H v' e1 e2 => ?_) n 0 G (by omega) (fun c _ => rfl) (fun i hi => absurd hi (by omega))⟩
          refine ih H (by omega) (fun c c1 c2 => (e1 c c2).trans (kG c c1 c2)) (Or.inr ⟨c, by omega, hb, fun c' hc' => fb_ct_zero.mp f0 c' hc', fun j hj => by rw [e2 j hj]; exact g2 j hj⟩)
        · have pos : 0 < fb_ct (fun c => gd t (dst m n c)) c := fb_ct_pos.mpr ⟨c0, f1, f2⟩
          refine ⟨1, ?_⟩
          unfold lw_279_93
          rw [if_neg (show ¬ nI n ≤ 0 from nI_ge (a := 0) (by omega) (by omega)), if_neg (fun e => by
            have := (nb_inj (b := 0) (by omega) (by decide)).mp e
            omega), ← nI_succ]
          exact ih G (by omega) kG (Or.inr ⟨c0, by omega, f2, f3, fun j hj => by rw [G94]; exact f4 j hj⟩)
theorem n182 (x : Int32) : f_182 x.toInt64 1 6 = f_13 x 1 6 := q182 x 1 6
theorem m182 (x y : Int32) : f_182 x.toInt64 0 y.toInt64 = f_13 x 0 y := q182 x 0 y
theorem o_29 {D : am_P} (hD : FrD D) {N : Nat} {T : Nat → Nat × Nat} {r : Nat → Nat → Option Nat} {I : am_I} {L : am_J} (h : Inv D N T r I L) (x1 x2 : Int32) : op_29 x1 x2 (Inv D) N T r I L := by
  unfold op_29 w_147
  obtain ⟨m, v, hm, hv, e1, e2, e3, hp⟩ := h.1.2.1
  obtain ⟨dn, w, a, b, hdn, hw, d1, d2, d3, hdr, hdc⟩ := door_ab h.1.1
  have i0 := inv_0 hD h
  rcases q13 x1 1 6 (by decide) (by decide) with ⟨a1, _⟩ | ⟨a1, n, hn1, hn, rfl⟩
  · have a1 : f_13 x1 1 6 = 0 := a1
    rw [if_pos a1]
    show w_278 _ _ _ _
    unfold w_278
    rw [n182]
    exact am_ifp a1 ⟨rfl, i0⟩
  have n1 : ¬ f_13 (nI n) 1 6 = 0 := by rw [show f_13 (nI n) 1 6 = 1 from a1]; decide
  rw [if_neg n1, d1]
  by_cases c1 : nI dn < nI n
  · rw [if_pos c1]
    show w_278 _ _ _ _
    unfold w_278
    rw [n182]
    refine am_ifn n1 (am_ifp ?_ ⟨rfl, i0⟩)
    rw [d2]
    exact c1
  rw [if_neg c1]
  rcases q13 x2 0 n (by decide) (by omega) with ⟨b1', _⟩ | ⟨b1', x, _, hx, rfl⟩
  · have b1' : f_13 x2 0 (nI n) = 0 := b1'
    rw [if_pos b1']
    show w_278 _ _ _ _
    unfold w_278
    rw [n182, m182]
    refine am_ifn n1 (am_ifn ?_ (am_ifp b1' ⟨rfl, i0⟩))
    rw [d2]
    exact c1
  have n2 : ¬ f_13 (nI x) 0 (nI n) = 0 := by rw [show f_13 (nI x) 0 (nI n) = 1 from b1']; decide
  rw [if_neg n2]
  have key : ∀ q, q < m → ∃ t, t < 256 ∧ I 8 q = nI t ∧ I 68 (42 + q) = nI t := by
    intro q hq
    obtain ⟨_, y, w, a, k, t, _, _, _, _, _, ht, _, _, _, _, q5, _, _, _, _, s5⟩ := hp q hq
    exact ⟨t, ht, q5, s5⟩
  obtain ⟨t, tc, tr⟩ : ∃ t : Nat → Nat, (∀ q, q < m → I 8 q = nI (t q) ∧ t q < 256) ∧ ∀ q, q < m → I 68 (42 + q) = nI (t q) ∧ t q < 256 := by
    refine ⟨fun q => Int32.toNatClampNeg (I 8 q), fun q hq => ?_, fun q hq => ?_⟩
    · obtain ⟨t, h1, h2, h3⟩ := key q hq
      show I 8 q = nI (Int32.toNatClampNeg (I 8 q)) ∧ Int32.toNatClampNeg (I 8 q) < 256
      rw [h2, nI_clamp (by omega)]
      exact ⟨rfl, h1⟩
    · obtain ⟨t, h1, h2, h3⟩ := key q hq
      show I 68 (42 + q) = nI (Int32.toNatClampNeg (I 8 q)) ∧ Int32.toNatClampNeg (I 8 q) < 256
      rw [h2, nI_clamp (by omega)]
      exact ⟨h3, h1⟩
  have ml := gdn_le (t := t) hm hn
  have ge := gdn_eq (t := t) hm hn1
  have xz : nI x = 0 ↔ x = 0 := nb_inj (b := 0) (by omega) (by decide)
  have gz : nI (gdn t m n) = 0 ↔ gdn t m n = 0 := nb_inj (b := 0) (by omega) (by decide)
  refine q148 hm hn1 hn e1 tc ?_
  have mdl : ∀ (q : Int32) (J : am_I), (∀ c, c ≠ 56 → J c = I c) → (x = 0 → q = nI (gdn t m n)) → (¬ x = 0 → gdn t m n = 0 → q = -1) → (¬ x = 0 → ¬ gdn t m n = 0 → ∀ c0, gd t (dst m n c0) = true → (∀ c', c' < c0 → gd t (dst m n c') = false) → q = nI (dg m n c0 (x - 1))) → w_278 (nI n) (nI x) J (fun q2 I2 => q = q2 ∧ Inv D N T r I2 L) := by
    intro q J hJ g1 g2 g3
    have J68 : J 68 = I 68 := hJ 68 (by decide)
    have e68 : am_u J 66 0 0 68 = I 68 := by rw [uu_h (by decide), J68]
    have iJ : Inv D N T r (am_u J 66 0 0) L := inv_0 hD (inv_scr hD h (fun c hc => hJ c (by omega)))
    unfold w_278
    rw [n182, m182]
    refine am_ifn n1 (am_ifn ?_ (am_ifn n2 ?_))
    · rw [J68, d2]
      exact c1
    unfold w_279
    refine ⟨n + 1, l279a (I := am_u J 66 0 0) (m := m) (n := n) hn (by rw [e68]; exact e2) ?_ n 0 (by omega)⟩
    refine ⟨m ^ n + 1, l279b (I := am_u J 66 0 0) (t := t) (m := m) (n := n) hm hn1 hn (by rw [e68]; exact e2) (by rw [e68]; exact tr) (fun J' hJ' hf => ?_) (m ^ n) 0 _ (by omega) (fun c _ _ => rfl) (Or.inl rfl)⟩
    have iJ' : Inv D N T r J' L := inv_scr hD iJ (fun c hc => hJ' c (by omega) (by omega))
    by_cases z : x = 0
    · exact am_ifp (xz.mpr z) ⟨g1 z, iJ'⟩
    · refine am_ifn (fun e => z (xz.mp e)) ?_
      by_cases z2 : gdn t m n = 0
      · exact am_ifp (gz.mpr z2) ⟨g2 z z2, iJ'⟩
      · refine am_ifn (fun e => z2 (gz.mp e)) ?_
        have x1' : nI x - 1 = nI (x - 1) := nb_sub (b := 1) (by omega)
        rw [x1']
        refine ⟨nb_gd (by omega) (by decide), ?_, iJ'⟩
        rw [nI_clamp (by omega : x - 1 < 2 ^ 31)]
        rcases hf with f0 | ⟨c0, f1, f2, f3, f4⟩
        · exact absurd f0 z2
        · rw [f4 (x - 1) (by omega)]
          exact g3 z z2 c0 f2 f3
  by_cases z : x = 0
  · refine am_ifp (xz.mpr z) ?_
    exact mdl _ I (fun c _ => rfl) (fun _ => rfl) (fun q => absurd z q) (fun q => absurd z q)
  · refine am_ifn (fun e => z (xz.mp e)) ?_
    by_cases z2 : gdn t m n = 0
    · refine am_ifp (gz.mpr z2) ?_
      exact mdl _ I (fun c _ => rfl) (fun q => absurd q z) (fun _ _ => rfl) (fun _ q => absurd z2 q)
    · refine am_ifn (fun e => z2 (gz.mp e)) ?_
      have n2' : 2 ≤ n := by
        rcases Nat.lt_or_ge n 2 with l | l
        · have e : n = 1 := by omega
          rw [e] at ge z2
          rw [show 2 ^ 1 - 2 = 0 from rfl, Nat.mul_zero, Nat.pow_one] at ge
          omega
        · exact l
      have ex := gd_ex (t := t) hm n2' (fb_ct_pos.mp (show 0 < gdn t m n by omega))
      refine q150 hm n2' hn e1 tc ex (fun J c hJ k1 k2 k3 k4 => ?_)
      have x1' : nI x - 1 = nI (x - 1) := nb_sub (b := 1) (by omega)
      rw [x1']
      refine ⟨nb_gd (by omega) (by decide), ?_⟩
      rw [nI_clamp (by omega : x - 1 < 2 ^ 31), k4 (x - 1) (by omega)]
      refine mdl _ J hJ (fun q => absurd q z) (fun _ q => absurd q z2) (fun _ _ c0 f2 f3 => ?_)
      rcases Nat.lt_trichotomy c c0 with l | l | l
      · rw [f3 c l] at k2
        cases k2
      · rw [l]
      · rw [k3 c0 l] at f2
        cases f2
