/-! one door on, by the class -/
def odo (a b : Nat → Int32) (U R : Nat) : Nat → Nat
  | 0 => R
  | d + 1 => if (bi R (Int32.toNatClampNeg (a d)) = 1 ∨ bi R (Int32.toNatClampNeg (b d)) = 1) ∧ bi U d = 1 then odo a b U R d ||| (2 ^ Int32.toNatClampNeg (a d) ||| 2 ^ Int32.toNatClampNeg (b d)) else odo a b U R d
theorem l128 {I : am_I} {n U R : Nat} {E : Int32 → Int32 → Prop} (hn : n ≤ 12) (en : I 1 2 = nI n) (hU : U < 2 ^ 31) (hR : R < 2 ^ 31) (hp : ∀ d, d < n → ∃ y z, y < 10 ∧ z < 10 ∧ I 2 d = nI y ∧ I 3 d = nI z) (hE : E (nI (odo (I 2) (I 3) U R n)) (nI n)) : ∀ k j, j + k = n → lw_128_5 (k + 1) (nI U) (nI R) (nI (odo (I 2) (I 3) U R j)) (nI j) I E
  | 0, j, h => by
    have hj : j = n := by omega
    subst hj
    unfold lw_128_5
    rw [en, if_pos (nI_le (Nat.le_refl _) (by omega))]
    exact hE
  | k + 1, j, h => by
    have ih := l128 hn en hU hR hp hE k (j + 1) (by omega)
    obtain ⟨y, z, hy, hz, ey, ez⟩ := hp j (by omega)
    have g12 : ¬ (nI j < 0 ∨ 12 ≤ Int32.toNatClampNeg (nI j)) := nb_gd (by omega) (by decide)
    have eo : odo (I 2) (I 3) U R (j + 1) = (if (bi R y = 1 ∨ bi R z = 1) ∧ bi U j = 1 then odo (I 2) (I 3) U R j ||| (2 ^ y ||| 2 ^ z) else odo (I 2) (I 3) U R j) := by
      show (if (bi R (Int32.toNatClampNeg (I 2 j)) = 1 ∨ bi R (Int32.toNatClampNeg (I 3 j)) = 1) ∧ bi U j = 1 then odo (I 2) (I 3) U R j ||| (2 ^ Int32.toNatClampNeg (I 2 j) ||| 2 ^ Int32.toNatClampNeg (I 3 j)) else odo (I 2) (I 3) U R j) = _
      rw [ey, ez, nI_clamp (by omega), nI_clamp (by omega)]
    rw [eo] at ih
    unfold lw_128_5
    rw [en, if_neg (nI_ge (by omega) (by omega))]
    refine ⟨g12, ?_⟩
    rw [nI_clamp (by omega : j < 2 ^ 31)] at g12 ⊢
    rw [ey, ez, q20 hR (by omega), q20 hR (by omega), q20 hU (by omega), ← nI_succ, q1s y (by omega), q1s z (by omega), fa_or, fa_or]
    have b1' := bi_lt R y
    have b2' := bi_lt R z
    have b3' := bi_lt U j
    have one : ∀ w, w < 2 → (nI w = 1 ↔ w = 1) := fun w hw => nb_inj (b := 1) (by omega) (by decide)
    by_cases c1 : bi R y = 1
    · rw [if_pos ((one _ b1').mpr c1)]
      by_cases c3 : bi U j = 1
      · rw [if_pos ((one _ b3').mpr c3)]
        rw [if_pos ⟨Or.inl c1, c3⟩] at ih
        exact ⟨g12, g12, ih⟩
      · rw [if_neg (fun q => c3 ((one _ b3').mp q))]
        rw [if_neg (fun q => c3 q.2)] at ih
        exact ih
    · rw [if_neg (fun q => c1 ((one _ b1').mp q))]
      refine ⟨g12, ?_⟩
      by_cases c2 : bi R z = 1
      · rw [if_pos ((one _ b2').mpr c2)]
        by_cases c3 : bi U j = 1
        · rw [if_pos ((one _ b3').mpr c3)]
          rw [if_pos ⟨Or.inr c2, c3⟩] at ih
          exact ⟨g12, g12, ih⟩
        · rw [if_neg (fun q => c3 ((one _ b3').mp q))]
          rw [if_neg (fun q => c3 q.2)] at ih
          exact ih
      · rw [if_neg (fun q => c2 ((one _ b2').mp q))]
        rw [if_neg (by rintro ⟨q | q, _⟩ <;> contradiction)] at ih
        exact ih
theorem q128 {I : am_I} {n U R : Nat} {K : Int32 → Prop} (hn : n ≤ 12) (en : I 1 2 = nI n) (hU : U < 2 ^ 31) (hR : R < 2 ^ 31) (hp : ∀ d, d < n → ∃ y z, y < 10 ∧ z < 10 ∧ I 2 d = nI y ∧ I 3 d = nI z) (hK : K (nI (odo (I 2) (I 3) U R n))) : w_128 (nI U) (nI R) I K := by
  unfold w_128
  exact ⟨n + 1, l128 (E := fun o1 _ => K o1) hn en hU hR hp hK n 0 (by omega)⟩
