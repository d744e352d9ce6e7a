/-! tokens: bytes of the tape, the class's side -/
def tL (n : Nat) : Bool := decide (97 ≤ n ∧ n ≤ 122)
def tD (n : Nat) : Bool := decide (48 ≤ n ∧ n ≤ 57)
theorem f42 : ∀ n, n < 256 → f_42 (nI n) = b1 (tL n) := by decide +kernel
theorem f43 : ∀ n, n < 256 → f_43 (nI n) = b1 (tD n) := by decide +kernel
theorem f208 : ∀ n, n < 256 → f_208 (nI n) = b1 (tL n) := by decide +kernel
theorem f209 : ∀ n, n < 256 → f_209 (nI n) = b1 (tD n) := by decide +kernel
/-- the first place from p on that is not f, z at most -/
def rnk (f : Nat → Bool) : Nat → Nat → Nat
  | 0, p => p
  | k + 1, p => if f p = true then rnk f k (p + 1) else p
def rnz (f : Nat → Bool) (z p : Nat) : Nat := rnk f (z - p) p
theorem rnk_le (f : Nat → Bool) : ∀ k p, p ≤ rnk f k p ∧ rnk f k p ≤ p + k
  | 0, p => ⟨Nat.le_refl _, Nat.le_refl _⟩
  | k + 1, p => by
    have ih := rnk_le f k (p + 1)
    show p ≤ (if f p = true then rnk f k (p + 1) else p) ∧ (if f p = true then rnk f k (p + 1) else p) ≤ _
    by_cases h : f p = true
    · rw [if_pos h]; omega
    · rw [if_neg h]; omega
theorem rnz_le (f : Nat → Bool) {z p : Nat} (h : p ≤ z) : p ≤ rnz f z p ∧ rnz f z p ≤ z := by
  have k := rnk_le f (z - p) p
  unfold rnz
  omega
theorem rnz_z (f : Nat → Bool) (z : Nat) : rnz f z z = z := by
  unfold rnz
  rw [Nat.sub_self]
  rfl
theorem rnz_s {f : Nat → Bool} {z p : Nat} (h : p < z) (hf : f p = true) : rnz f z p = rnz f z (p + 1) := by
  unfold rnz
  rw [show z - p = (z - (p + 1)) + 1 by omega]
  show (if f p = true then rnk f (z - (p + 1)) (p + 1) else p) = _
  rw [if_pos hf]
theorem rnz_n {f : Nat → Bool} {z p : Nat} (h : p < z) (hf : f p = false) : rnz f z p = p := by
  unfold rnz
  rw [show z - p = (z - (p + 1)) + 1 by omega]
  show (if f p = true then rnk f (z - (p + 1)) (p + 1) else p) = _
  rw [if_neg (by rw [hf]; decide)]
/-- every place passed over is f -/
theorem rnz_all {f : Nat → Bool} {z : Nat} : ∀ k p, p + k = z → ∀ i, p ≤ i → i < rnz f z p → f i = true
  | 0, p, hz, i, h1, h2 => by
    have e : p = z := by omega
    subst e
    rw [rnz_z] at h2
    omega
  | k + 1, p, hz, i, h1, h2 => by
    cases hf : f p with
    | false => rw [rnz_n (by omega) hf] at h2; omega
    | true =>
      rw [rnz_s (by omega) hf] at h2
      by_cases e : i = p
      · subst e; exact hf
      · exact rnz_all k (p + 1) (by omega) i (by omega) h2
def BY (I : am_I) (b : Nat → Nat) (z : Nat) : Prop := z ≤ 400 ∧ I 14 1 = nI z ∧ ∀ k, k < z → b k < 256 ∧ I 15 k = nI (b k)
theorem l41d {I : am_I} {b : Nat → Nat} {z : Nat} {E : Int32 → Prop} (h : BY I b z) : ∀ k p, p + k = z → E (nI (rnz (fun i => tD (b i)) z p)) → lw_41_54 (k + 1) (nI p) I E
  | 0, p, hz, hE => by
    have e : p = z := by omega
    subst e
    rw [rnz_z] at hE
    unfold lw_41_54
    rw [h.2.1, if_pos (nI_le (Nat.le_refl _) (by have := h.1; omega))]
    exact hE
  | k + 1, p, hz, hE => by
    have z4 := h.1
    obtain ⟨b1', b2⟩ := h.2.2 p (by omega)
    unfold lw_41_54
    rw [h.2.1, if_neg (nI_ge (by omega) (by omega))]
    refine ⟨nb_gd (by omega) (by decide), ?_⟩
    rw [nI_clamp (by omega : p < 2 ^ 31), b2, f43 _ b1']
    cases hf : tD (b p) with
    | false =>
      rw [rnz_n (f := fun i => tD (b i)) (by omega) hf] at hE
      exact am_ifp rfl hE
    | true =>
      rw [rnz_s (f := fun i => tD (b i)) (by omega) hf] at hE
      refine am_ifn (show ¬ b1 true = 0 by decide) ?_
      rw [← nI_succ]
      exact l41d h k (p + 1) (by omega) hE
theorem l41w {I : am_I} {b : Nat → Nat} {z : Nat} {E : Int32 → Prop} (h : BY I b z) : ∀ k p, p + k = z → E (nI (rnz (fun i => tL (b i)) z p)) → lw_41_16 (k + 1) (nI p) I E
  | 0, p, hz, hE => by
    have e : p = z := by omega
    subst e
    rw [rnz_z] at hE
    unfold lw_41_16
    rw [h.2.1, if_pos (nI_le (Nat.le_refl _) (by have := h.1; omega))]
    exact hE
  | k + 1, p, hz, hE => by
    have z4 := h.1
    obtain ⟨b1', b2⟩ := h.2.2 p (by omega)
    unfold lw_41_16
    rw [h.2.1, if_neg (nI_ge (by omega) (by omega))]
    refine ⟨nb_gd (by omega) (by decide), ?_⟩
    rw [nI_clamp (by omega : p < 2 ^ 31), b2, f42 _ b1']
    cases hf : tL (b p) with
    | false =>
      rw [rnz_n (f := fun i => tL (b i)) (by omega) hf] at hE
      exact am_ifp rfl hE
    | true =>
      rw [rnz_s (f := fun i => tL (b i)) (by omega) hf] at hE
      refine am_ifn (show ¬ b1 true = 0 by decide) ?_
      rw [← nI_succ]
      exact l41w h k (p + 1) (by omega) hE
/-- where the token that begins at p ends -/
def bhd (b : Nat → Nat) (z p : Nat) : Nat := if tL (b p) = true then rnz (fun i => tL (b i)) z (p + 1) else if tD (b p) = true then rnz (fun i => tD (b i)) z (p + 1) else p + 1
theorem bhd_le (b : Nat → Nat) {z p : Nat} (h : p < z) : p < bhd b z p ∧ bhd b z p ≤ z := by
  unfold bhd
  have k1 := rnz_le (fun i => tL (b i)) (show p + 1 ≤ z by omega)
  have k2 := rnz_le (fun i => tD (b i)) (show p + 1 ≤ z by omega)
  split
  · omega
  · split <;> omega
theorem q41 {I : am_I} {b : Nat → Nat} {z p : Nat} {K : Int32 → Prop} (h : BY I b z) (hp : p < z) (hK : K (nI (bhd b z p))) : w_41 (nI p) I K := by
  have z4 := h.1
  obtain ⟨b1', b2⟩ := h.2.2 p hp
  unfold bhd at hK
  unfold w_41
  refine ⟨nb_gd (by omega) (by decide), ?_⟩
  rw [nI_clamp (by omega : p < 2 ^ 31), b2, f42 _ b1', f43 _ b1', ← nI_succ]
  cases hl : tL (b p) with
  | true =>
    rw [if_pos hl] at hK
    refine am_ifn (show ¬ b1 true = 0 by decide) ⟨z - (p + 1) + 1, l41w (E := fun o2 => K o2) h _ _ (by omega) hK⟩
  | false =>
    rw [if_neg (by rw [hl]; decide)] at hK
    refine am_ifp rfl ⟨fun k => ?_, ?_⟩
    · rcases k with k | k
      · exact absurd k (nI_pos (by omega))
      · omega
    · cases hd : tD (b p) with
      | true =>
        rw [if_pos hd] at hK
        refine am_ifn (show ¬ b1 true = 0 by decide) ⟨z - (p + 1) + 1, l41d (E := fun o2 => K o2) h _ _ (by omega) hK⟩
      | false =>
        rw [if_neg (by rw [hd]; decide)] at hK
        exact am_ifp rfl hK
