/-! sure -/
def acc (U : Nat → Bool) : Nat → Nat
  | 0 => 0
  | j + 1 => if U j = true then acc U j ||| 2 ^ j else acc U j
/-- who stands at x with such a vote (al: with any) -/
def atv (R : Nat → Int32) (v : Nat) (al : Bool) (sd x p : Nat) : Bool := decide (R (10 + p) = nI x) && (al || decide (bi v p = sd))
def atc (R : Nat → Int32) (v : Nat) (al : Bool) (sd x j : Nat) : Nat := fb_ct (atv R v al sd x) j
/-- whether a place must be counted again: t may be turned there, the lead is l -/
def uns (l : Int) (t : Nat) : Bool := decide (0 < t ∧ l.natAbs ≤ 2 * t)
theorem l167a {I : am_I} {a b c : Int32} {E : Int32 → am_I → Prop} (hE : ∀ J, (∀ c, c ≠ 62 → J c = I c) → (∀ x, x < 10 → J 62 x = 0) → E (nI 10) J) : ∀ k j J, j + k = 10 → (∀ c, c ≠ 62 → J c = I c) → (∀ x, x < j → J 62 x = 0) → lw_167_34 (k + 1) a b c (nI j) J E
  | 0, j, J, h, h1, h2 => by
    have hj : j = 10 := by omega
    subst hj
    unfold lw_167_34
    rw [if_pos (show (10 : Int32) ≤ nI 10 from nI_le (a := 10) (Nat.le_refl _) (by decide))]
    exact hE J h1 h2
  | k + 1, j, J, h, h1, h2 => by
    unfold lw_167_34
    rw [if_neg (show ¬ (10 : Int32) ≤ nI j from nI_ge (b := 10) (by omega) (by decide))]
    refine ⟨nb_gd (by omega) (by decide), ?_⟩
    rw [nI_clamp (by omega), ← nI_succ]
    refine l167a hE k (j + 1) _ (by omega) (fun c hc => ?_) (fun x hx => ?_)
    · rw [uu_h hc]
      exact h1 c hc
    · by_cases e : x = j
      · subst e
        exact uu_e
      · rw [uu_n e]
        exact h2 x (by omega)
theorem l167b {I : am_I} {m v sd : Nat} {f ld : Int32} {al : Bool} {E : Int32 → am_I → Prop} (hm : m ≤ 8) (hv : v < 256) (em : I 1 10 = nI m) (ev : I 1 9 = nI v) (hsd : sd < 2) (hal : al = decide (ld = 0)) (hp : ∀ p, p < m → ∃ x, x < 10 ∧ I 6 p = nI x ∧ I 68 (10 + p) = nI x)
    (hE : ∀ J, (∀ c, c ≠ 62 → J c = I c) → (∀ x, x < 10 → J 62 x = nI (atc (I 68) v al sd x m)) → E (nI m) J) : ∀ k j J, j + k = m → (∀ c, c ≠ 62 → J c = I c) → (∀ x, x < 10 → J 62 x = nI (atc (I 68) v al sd x j)) → lw_167_58 (k + 1) f ld (nI sd) (nI j) J E
  | 0, j, J, h, h1, h2 => by
    have hj : j = m := by omega
    subst hj
    unfold lw_167_58
    rw [h1 1 (by decide), em, if_pos (nI_le (Nat.le_refl _) (by omega))]
    exact hE J h1 h2
  | k + 1, j, J, h, h1, h2 => by
    have ih := l167b (f := f) hm hv em ev hsd hal hp hE k (j + 1)
    obtain ⟨x, hx, p6, p68⟩ := hp j (by omega)
    have es : ∀ y, atc (I 68) v al sd y (j + 1) = atc (I 68) v al sd y j + (if atv (I 68) v al sd y j then 1 else 0) := fun y => fb_ct_succ _ _
    have cle : ∀ y, atc (I 68) v al sd y j ≤ j := fun y => fb_ct_le _ _
    have at_ : ∀ y, y < 10 → atv (I 68) v al sd y j = (decide (x = y) && (al || decide (bi v j = sd))) := by
      intro y hy
      unfold atv
      rw [p68]
      by_cases z : x = y
      · rw [decide_eq_true z, decide_eq_true (by rw [z])]
      · rw [decide_eq_false z, decide_eq_false (fun q => z ((nb_inj (by omega) (by omega)).mp q))]
    have inc : (al || decide (bi v j = sd)) = true → lw_167_58 (k + 1) f ld (nI sd) (nI (j + 1)) (am_u J 62 x (J 62 x + 1)) E := by
      intro t
      refine ih _ (by omega) (fun c hc => by rw [uu_h hc]; exact h1 c hc) (fun y hy => ?_)
      rw [es, at_ y hy, t, Bool.and_true]
      by_cases z : y = x
      · subst z
        rw [uu_e, h2 y hy, ← nI_succ, decide_eq_true rfl]
        rfl
      · rw [uu_n z, h2 y hy, decide_eq_false (Ne.symm z)]
        rfl
    unfold lw_167_58
    rw [h1 1 (by decide), h1 6 (by decide), em, ev, if_neg (nI_ge (by omega) (by omega))]
    have g8 : ¬ (nI j < 0 ∨ 8 ≤ Int32.toNatClampNeg (nI j)) := nb_gd (by omega) (by decide)
    have gx : ¬ (nI x < 0 ∨ 10 ≤ Int32.toNatClampNeg (nI x)) := nb_gd (by omega) (by decide)
    have kj : Int32.toNatClampNeg (nI j) = j := nI_clamp (by omega)
    have kx : Int32.toNatClampNeg (nI x) = x := nI_clamp (by omega)
    rw [kj] at g8 ⊢
    rw [p6, kx, ← nI_succ]
    rw [kx] at gx
    by_cases z : ld = 0
    · rw [if_pos z]
      exact ⟨g8, gx, gx, inc (by rw [hal, decide_eq_true z]; rfl)⟩
    · rw [if_neg z, q20 (by omega) (by omega)]
      have bl := bi_lt v j
      by_cases y : bi v j = sd
      · rw [if_pos (by rw [y])]
        exact ⟨g8, gx, gx, inc (by rw [decide_eq_true y, Bool.or_true])⟩
      · rw [if_neg (fun q => y ((nb_inj (by omega) (by omega)).mp q))]
        refine ih _ (by omega) h1 (fun y' hy' => ?_)
        rw [es, at_ y' hy', show (al || decide (bi v j = sd)) = false by rw [hal, decide_eq_false z, decide_eq_false y]; rfl, Bool.and_false, h2 y' hy']
        rfl
theorem l167c {I : am_I} {f : Nat} {l : Int} {ld : Int32} {C : Nat → Nat} {E : Int32 → Int32 → Prop} (hf : f ≤ 8) (hl : ld.toInt = l) (h8 : -8 ≤ l ∧ l ≤ 8) (hC : ∀ x, x < 10 → C x ≤ 8 ∧ I 62 x = nI (C x)) (hE : E (nI (acc (fun x => uns l (min (C x) f)) 10)) (nI 10)) : ∀ k j, j + k = 10 → lw_167_113 (k + 1) (nI f) ld (nI (acc (fun x => uns l (min (C x) f)) j)) (nI j) I E
  | 0, j, h => by
    have hj : j = 10 := by omega
    subst hj
    unfold lw_167_113
    rw [if_pos (show (10 : Int32) ≤ nI 10 from nI_le (a := 10) (Nat.le_refl _) (by decide))]
    exact hE
  | k + 1, j, h => by
    have ih := l167c hf hl h8 hC hE k (j + 1) (by omega)
    unfold lw_167_113
    rw [if_neg (show ¬ (10 : Int32) ≤ nI j from nI_ge (b := 10) (by omega) (by decide))]
    refine ⟨nb_gd (by omega) (by decide), ?_⟩
    obtain ⟨c8, ec⟩ := hC j (by omega)
    rw [nI_clamp (by omega), ec, ← nI_succ]
    have emin : (if nI (C j) < nI f then nI (C j) else nI f) = nI (min (C j) f) := by
      by_cases z : C j < f
      · rw [if_pos ((nb_lt (by omega) (by omega)).mpr z), show min (C j) f = C j by omega]
      · rw [if_neg (fun q => z ((nb_lt (by omega) (by omega)).mp q)), show min (C j) f = f by omega]
    rw [emin]
    have ea : acc (fun x => uns l (min (C x) f)) (j + 1) = (if uns l (min (C j) f) = true then acc (fun x => uns l (min (C x) f)) j ||| 2 ^ j else acc (fun x => uns l (min (C x) f)) j) := rfl
    rw [ea] at ih
    generalize hA : acc (fun x => uns l (min (C x) f)) j = A at ih ⊢
    generalize ht : min (C j) f = t at ih ⊢
    have t8 : t ≤ 8 := by omega
    have eabs : (if 0 ≤ ld then ld else 0 - ld).toInt = (l.natAbs : Int) := by
      by_cases z : 0 ≤ ld
      · rw [if_pos z, hl]
        rw [Int32.le_iff_toInt_le, Int32.toInt_zero, hl] at z
        omega
      · rw [if_neg z, Int32.toInt_sub, hl, Int32.toInt_zero]
        rw [Int32.le_iff_toInt_le, Int32.toInt_zero, hl] at z
        rw [Int.bmod_eq_of_le (by omega) (by omega)]
        omega
    have e2 : (2 : Int32) * nI t = nI (2 * t) := nb_mul 2 t
    by_cases z : t = 0
    · rw [if_pos (by rw [z]; decide)]
      rw [if_neg (by unfold uns; simp [z])] at ih
      exact ih
    · rw [if_neg (show ¬ nI t ≤ 0 from nI_ge (a := 0) (by omega) (by omega)), e2]
      by_cases y : l.natAbs ≤ 2 * t
      · rw [if_neg (by rw [Int32.lt_iff_toInt_lt, eabs, nI_toInt (by omega)]; omega), q1s j (by omega), fa_or]
        rw [if_pos (by unfold uns; simp; omega)] at ih
        exact ih
      · rw [if_pos (by rw [Int32.lt_iff_toInt_lt, eabs, nI_toInt (by omega)]; omega)]
        rw [if_neg (by unfold uns; simp; omega)] at ih
        exact ih
/-- yes and no at a place, as the reference counts them -/
theorem l290 {I : am_I} {m v x : Nat} {f ld : Int32} {E : Int32 → Int32 → Int32 → Prop} (hm : m ≤ 8) (em : I 68 1 = nI m) (hp : ∀ p, p < m → I 68 (50 + p) = nI (bi v p)) (hE : E (nI (atc (I 68) v false 1 x m)) (nI (atc (I 68) v false 0 x m)) (nI m)) : ∀ k j, j + k = m → lw_290_9 (k + 1) (nI x) f ld (nI (atc (I 68) v false 1 x j)) (nI (atc (I 68) v false 0 x j)) (nI j) I E
  | 0, j, h => by
    have hj : j = m := by omega
    subst hj
    unfold lw_290_9
    rw [em, if_pos (nI_le (Nat.le_refl _) (by omega))]
    exact hE
  | k + 1, j, h => by
    have ih := l290 (f := f) (ld := ld) hm em hp hE k (j + 1) (by omega)
    have es : ∀ sd, atc (I 68) v false sd x (j + 1) = atc (I 68) v false sd x j + (if atv (I 68) v false sd x j then 1 else 0) := fun sd => fb_ct_succ _ _
    rw [es, es] at ih
    have cl1 : atc (I 68) v false 1 x j ≤ j := fb_ct_le _ _
    have cl0 : atc (I 68) v false 0 x j ≤ j := fb_ct_le _ _
    unfold lw_290_9 wb_290_50
    rw [em, if_neg (nI_ge (by omega) (by omega))]
    obtain ⟨g1, k1⟩ := ixa (a := 10) (n := j) (by omega)
    obtain ⟨g2, k2⟩ := ixa (a := 50) (n := j) (by omega)
    have k1 : Int32.toNatClampNeg (10 + nI j) = 10 + j := k1
    have k2 : Int32.toNatClampNeg (50 + nI j) = 50 + j := k2
    refine ⟨g1, ?_⟩
    have g1' : ¬ ((10 : Int32) + nI j < 0 ∨ 5510 ≤ 10 + j) := by rw [← k1]; exact g1
    have g2' : ¬ ((50 : Int32) + nI j < 0 ∨ 5510 ≤ 50 + j) := by rw [← k2]; exact g2
    rw [k1, k2, hp j (by omega), ← nI_succ]
    have bl := bi_lt v j
    by_cases z : I 68 (10 + j) = nI x
    · rw [if_pos z, if_pos z]
      refine ⟨g2', g1', g2', ?_⟩
      rw [nb_add, show (1 : Int32) - nI (bi v j) = nI (1 - bi v j) from nb_sub (a := 1) (by omega), nb_add]
      have a1 : atv (I 68) v false 1 x j = decide (bi v j = 1) := by unfold atv; simp [z]
      have a0 : atv (I 68) v false 0 x j = decide (bi v j = 0) := by unfold atv; simp [z]
      rw [a1, a0] at ih
      rcases (by omega : bi v j = 0 ∨ bi v j = 1) with y | y
      · rw [y] at ih ⊢
        exact ih
      · rw [y] at ih ⊢
        exact ih
    · rw [if_neg z, if_neg z]
      refine ⟨g1', ?_⟩
      rw [show ∀ y : Nat, nI y + 0 = nI y from fun y => nb_add y 0, show ∀ y : Nat, nI y + 0 = nI y from fun y => nb_add y 0]
      have a1 : ∀ sd, atv (I 68) v false sd x j = false := fun sd => by unfold atv; simp [z]
      rw [a1, a1] at ih
      exact ih
