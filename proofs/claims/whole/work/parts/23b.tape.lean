/-! tokens: numbers -/
/-- a number as the class reads it, and as the reference does -/
def nmc (b : Nat → Nat) (p : Nat) : Nat → Nat
  | 0 => 0
  | k + 1 => min 100000 (nmc b p k * 10 + (b (p + k) - 48))
def nmr (b : Nat → Nat) (p : Nat) : Nat → Nat
  | 0 => 0
  | k + 1 => if nmr b p k ≤ 1000000 then nmr b p k * 10 + (b (p + k) - 48) else nmr b p k
theorem nmc_le (b : Nat → Nat) (p : Nat) : ∀ k, nmc b p k ≤ 100000
  | 0 => Nat.zero_le _
  | k + 1 => Nat.min_le_left _ _
theorem nmr_le {b : Nat → Nat} {p : Nat} : ∀ k, (∀ i, i < k → b (p + i) < 256) → nmr b p k ≤ 10000256
  | 0, _ => Nat.zero_le _
  | k + 1, h => by
    have ih := nmr_le k (fun i hi => h i (by omega))
    have hb := h k (by omega)
    show (if nmr b p k ≤ 1000000 then nmr b p k * 10 + (b (p + k) - 48) else nmr b p k) ≤ _
    by_cases z : nmr b p k ≤ 1000000
    · rw [if_pos z]; omega
    · rw [if_neg z]; exact ih
theorem nmc_nmr (b : Nat → Nat) (p : Nat) : ∀ k, nmc b p k = min 100000 (nmr b p k)
  | 0 => rfl
  | k + 1 => by
    have ih := nmc_nmr b p k
    show min 100000 (nmc b p k * 10 + (b (p + k) - 48)) = min 100000 (if nmr b p k ≤ 1000000 then nmr b p k * 10 + (b (p + k) - 48) else nmr b p k)
    rw [ih]
    generalize b (p + k) - 48 = d
    generalize nmr b p k = v
    by_cases z : v ≤ 1000000
    · rw [if_pos z]; omega
    · rw [if_neg z]; omega
theorem nI_sub {a c : Nat} (h : c ≤ a) : nI a - nI c = nI (a - c) := by
  obtain ⟨d, rfl⟩ : ∃ d, a = d + c := ⟨a - c, by omega⟩
  rw [← nb_add, Int32.add_sub_cancel, Nat.add_sub_cancel]
theorem l44 {I : am_I} {b : Nat → Nat} {z p e : Nat} {E : Int32 → Int32 → Prop} (h : BY I b z) (he : e ≤ z) (hd : ∀ i, p ≤ i → i < e → tD (b i) = true) (hE : ∀ u, E (nI (nmc b p (e - p))) u) : ∀ k j, p + j + k = e → lw_44_49 (k + 1) (nI e) (nI (nmc b p j)) (nI (p + j)) I E
  | 0, j, hj => by
    have e1 : p + j = e := by omega
    have e2 : j = e - p := by omega
    have z4 := h.1
    unfold lw_44_49
    rw [e1, if_pos (nI_le (Nat.le_refl _) (by omega)), e2]
    exact hE _
  | k + 1, j, hj => by
    have ih := l44 h he hd hE k (j + 1) (by omega)
    have z4 := h.1
    obtain ⟨b1', b2⟩ := h.2.2 (p + j) (by omega)
    have dd := hd (p + j) (by omega) (by omega)
    have d2 : 48 ≤ b (p + j) ∧ b (p + j) ≤ 57 := of_decide_eq_true dd
    have nl := nmc_le b p j
    unfold lw_44_49
    rw [if_neg (nI_ge (by omega) (by omega))]
    refine ⟨nb_gd (by omega) (by decide), ?_⟩
    rw [nI_clamp (by omega : p + j < 2 ^ 31), b2]
    have ev : nI (nmc b p j) * 10 + nI (b (p + j)) - 48 = nI (nmc b p j * 10 + (b (p + j) - 48)) := by
      rw [show (10 : Int32) = nI 10 from rfl, show (48 : Int32) = nI 48 from rfl, nb_mul, nb_add, nI_sub (by omega)]
      congr 1
      omega
    rw [ev, ← nI_succ]
    have em : (if nI (nmc b p j * 10 + (b (p + j) - 48)) < (100000 : Int32) then nI (nmc b p j * 10 + (b (p + j) - 48)) else (100000 : Int32)) = nI (nmc b p (j + 1)) := by
      show _ = nI (min 100000 (nmc b p j * 10 + (b (p + j) - 48)))
      by_cases y : nmc b p j * 10 + (b (p + j) - 48) < 100000
      · rw [if_pos (show nI (nmc b p j * 10 + (b (p + j) - 48)) < (100000 : Int32) from (nb_lt (b := 100000) (by omega) (by decide)).mpr y), Nat.min_eq_right (by omega)]
      · rw [if_neg (show ¬ nI (nmc b p j * 10 + (b (p + j) - 48)) < (100000 : Int32) from fun q => y ((nb_lt (b := 100000) (by omega) (by decide)).mp q)), Nat.min_eq_left (by omega)]
        rfl
    rw [em]
    exact ih
