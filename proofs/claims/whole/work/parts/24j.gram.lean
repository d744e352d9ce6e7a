/-! the grammar: pieces go on, and where they end -/
def TN (n : Nat) (C : Nat → Nat) : Prop := n ≤ 400 ∧ C n = 3000000
theorem TN_lt {n i : Nat} {C : Nat → Nat} (h : TN n C) (hi : i ≤ n) (hc : C i ≠ 3000000) : i < n := by
  by_cases e : i = n
  · exact absurd (by rw [e]; exact h.2) hc
  · omega
def adv (n : Nat) (p : Nat → Prop) (X : Nat → Nat → Rs) : Prop := ∀ i q j r, i ≤ n → X i q = (j, some r) → i < j ∧ j ≤ n ∧ p j
def advB (n : Nat) (X : Nat → Nat → Rs) : Prop := ∀ i q j r, i < n → X i q = (j, some r) → i < j ∧ j ≤ n
theorem lo_adv {n a b : Nat} {C : Nat → Nat} {p : Nat → Prop} {X : Nat → Nat → Rs} (hT : TN n C) (ha : 1 ≤ a) (hX : adv n p X) : ∀ k i q f j r, i ≤ n → 400 ≤ i + k → p i → lo C a b X k i q f = (j, some r) → i ≤ j ∧ j ≤ n ∧ p j ∧ ¬ (a ≤ sgo (C j) ∧ sgo (C j) ≤ b)
  | 0, i, q, f, j, r, hi, hk, hp, e => by
    have e : ((i, some (q, f)) : Rs) = (j, some r) := e
    injection e with e1 _
    subst e1
    have ei : i = n := by have := hT.1; omega
    refine ⟨Nat.le_refl _, hi, hp, fun c => ?_⟩
    rw [ei, hT.2, show sgo 3000000 = 0 from rfl] at c
    omega
  | k + 1, i, q, f, j, r, hi, hk, hp, e => by
    have e : (if a ≤ sgo (C i) ∧ sgo (C i) ≤ b then thn (X (i + 1) q) (fun j q' g => lo C a b X k j q' (bnd (sgo (C i)) f g)) else (i, some (q, f))) = (j, some r) := e
    by_cases c : a ≤ sgo (C i) ∧ sgo (C i) ≤ b
    · rw [if_pos c] at e
      have sg := sgo_sg (show 1 ≤ sgo (C i) by omega)
      have il := TN_lt hT hi (by omega)
      obtain ⟨r1, r2⟩ := r
      obtain ⟨j1, q1, f1, e1, e2⟩ := thn_inv e
      obtain ⟨x1, x2, x3⟩ := hX _ _ _ _ il e1
      have := lo_adv hT ha hX k j1 q1 _ j _ x2 (by omega) x3 e2
      exact ⟨by omega, this.2⟩
    · rw [if_neg c] at e
      injection e with e1 _
      subst e1
      exact ⟨Nat.le_refl _, hi, hp, c⟩
theorem lpO_adv {n a b : Nat} {C : Nat → Nat} {p : Nat → Prop} {X : Nat → Nat → Rs} (hT : TN n C) (ha : 1 ≤ a) (hX : adv n p X) : adv n (fun j => p j ∧ ¬ (a ≤ sgo (C j) ∧ sgo (C j) ≤ b)) (lpO C a b X) := by
  intro i q j r hi e
  obtain ⟨r1, r2⟩ := r
  obtain ⟨j1, q1, f1, e1, e2⟩ := thn_inv e
  obtain ⟨x1, x2, x3⟩ := hX _ _ _ _ hi e1
  have := lo_adv hT ha hX 400 j1 q1 _ j _ x2 (by omega) x3 e2
  exact ⟨by omega, this.2⟩
theorem sl_adv {n o : Nat} {C : Nat → Nat} {p : Nat → Prop} {X : Nat → Nat → Rs} (hT : TN n C) (ho : o < 100) (hX : adv n p X) : ∀ k i q f j r, i ≤ n → 400 ≤ i + k → p i → sl C o X k i q f = (j, some r) → i ≤ j ∧ j ≤ n ∧ p j ∧ ¬ C j = 1000000 + o
  | 0, i, q, f, j, r, hi, hk, hp, e => by
    have e : ((i, some (q, f)) : Rs) = (j, some r) := e
    injection e with e1 _
    subst e1
    have ei : i = n := by have := hT.1; omega
    refine ⟨Nat.le_refl _, hi, hp, fun c => ?_⟩
    rw [ei, hT.2] at c
    omega
  | k + 1, i, q, f, j, r, hi, hk, hp, e => by
    have e : (if C i = 1000000 + o then thn (X (i + 1) q) (fun j q' g => sl C o X k j q' (shd o f g)) else (i, some (q, f))) = (j, some r) := e
    by_cases c : C i = 1000000 + o
    · rw [if_pos c] at e
      have il := TN_lt hT hi (by omega)
      obtain ⟨r1, r2⟩ := r
      obtain ⟨j1, q1, f1, e1, e2⟩ := thn_inv e
      obtain ⟨x1, x2, x3⟩ := hX _ _ _ _ il e1
      have := sl_adv hT ho hX k j1 q1 _ j _ x2 (by omega) x3 e2
      exact ⟨by omega, this.2⟩
    · rw [if_neg c] at e
      injection e with e1 _
      subst e1
      exact ⟨Nat.le_refl _, hi, hp, c⟩
theorem lpW_adv {n o : Nat} {C : Nat → Nat} {p : Nat → Prop} {X : Nat → Nat → Rs} (hT : TN n C) (ho : o < 100) (hX : adv n p X) : adv n (fun j => p j ∧ ¬ C j = 1000000 + o) (lpW C o X) := by
  intro i q j r hi e
  obtain ⟨r1, r2⟩ := r
  obtain ⟨j1, q1, f1, e1, e2⟩ := thn_inv e
  obtain ⟨x1, x2, x3⟩ := hX _ _ _ _ hi e1
  have := sl_adv hT ho hX 400 j1 q1 _ j _ x2 (by omega) x3 e2
  exact ⟨by omega, this.2⟩
theorem ptP_adv {n : Nat} {C : Nat → Nat} {law : Bool} {inn : Nat → Nat → Rs} (hT : TN n C) (hI : advB n inn) : adv n (fun _ => True) (ptP C law inn) := by
  intro i q j r hi e
  unfold ptP at e
  by_cases c : C i = 2000091
  · rw [if_pos c] at e
    have := hI i q j r (TN_lt hT hi (by omega)) e
    exact ⟨this.1, this.2, trivial⟩
  · rw [if_neg c] at e
    by_cases d : 50 ≤ q
    · rw [if_pos d] at e
      injection e with _ e
      cases e
    · rw [if_neg d] at e
      by_cases c1 : C i ≤ 1000
      · rw [if_pos c1] at e
        have il := TN_lt hT hi (by omega)
        injection e with e1 _
        exact ⟨by omega, by omega, trivial⟩
      · rw [if_neg c1] at e
        by_cases ca : asw law (C i) = true
        · rw [if_pos ca] at e
          obtain ⟨a1, a2, _⟩ := asw_c ca
          have il := TN_lt hT hi (by omega)
          unfold wdP at e
          by_cases c30 : C i = 1000030
          · rw [if_pos c30] at e
            by_cases c7 : C (i + 1) ≤ 7
            · rw [if_pos c7] at e
              have il2 := TN_lt hT (i := i + 1) (by omega) (by omega)
              injection e with e1 _
              exact ⟨by omega, by omega, trivial⟩
            · rw [if_neg c7] at e
              injection e with _ e
              cases e
          · rw [if_neg c30] at e
            by_cases c31 : C i = 1000031
            · rw [if_pos c31] at e
              by_cases c7 : C (i + 1) ≤ 7
              · rw [if_pos c7] at e
                have il2 := TN_lt hT (i := i + 1) (by omega) (by omega)
                by_cases c11 : C (i + 2) ≤ 11
                · rw [if_pos c11] at e
                  have il3 := TN_lt hT (i := i + 2) (by omega) (by omega)
                  injection e with e1 _
                  exact ⟨by omega, by omega, trivial⟩
                · rw [if_neg c11] at e
                  injection e with _ e
                  cases e
              · rw [if_neg c7] at e
                injection e with _ e
                cases e
            · rw [if_neg c31] at e
              injection e with e1 _
              exact ⟨by omega, by omega, trivial⟩
        · rw [if_neg ca] at e
          injection e with _ e
          cases e
theorem inO_adv {n cl : Nat} {C : Nat → Nat} {p : Nat → Prop} {X : Nat → Nat → Rs} (hT : TN n C) (hc : cl < 3000000) (hX : adv n p X) : advB n (inO C cl X) := by
  intro i q j r hi e
  obtain ⟨r1, r2⟩ := r
  obtain ⟨j1, q1, f1, e1, e2⟩ := thn_inv e
  obtain ⟨x1, x2, x3⟩ := hX _ _ _ _ hi e1
  by_cases c : C j1 = cl
  · rw [if_pos c] at e2
    have il := TN_lt hT x2 (by omega)
    injection e2 with e3 _
    exact ⟨by omega, by omega⟩
  · rw [if_neg c] at e2
    injection e2 with _ e2
    cases e2
theorem inN_adv {n : Nat} : advB n inN := by
  intro i q j r hi e
  have e : ((i, none) : Rs) = (j, some r) := e
  injection e with _ e
  cases e
def sEnd (C : Nat → Nat) (j : Nat) : Prop := ¬ (4 ≤ sgo (C j) ∧ sgo (C j) ≤ 8)
theorem adv_p {n : Nat} {p p' : Nat → Prop} {X : Nat → Nat → Rs} (h : adv n p X) (e : ∀ j, p j → p' j) : adv n p' X := fun i q j r hi er => ⟨(h i q j r hi er).1, (h i q j r hi er).2.1, e j (h i q j r hi er).2.2⟩
theorem sm_adv {n : Nat} {C : Nat → Nat} {law : Bool} {inn : Nat → Nat → Rs} (hT : TN n C) (hI : advB n inn) : adv n (sEnd C) (lpO C 4 5 (lpO C 6 8 (ptP C law inn))) := adv_p (lpO_adv hT (by decide) (lpO_adv hT (by decide) (ptP_adv hT hI))) (fun j h => by
  unfold sEnd
  omega)
theorem smD_adv {n : Nat} {C : Nat → Nat} {law : Bool} (hT : TN n C) : ∀ d, adv n (sEnd C) (smD C law d)
  | 0 => sm_adv hT inN_adv
  | d + 1 => sm_adv hT (inO_adv hT (by decide) (smD_adv hT d))
theorem ntk_le {n i : Nat} {C : Nat → Nat} (hT : TN n C) (hi : i ≤ n) : i ≤ ntk C i ∧ ntk C i ≤ n := by
  have hn := hT.1
  refine ⟨(rnk_le _ _ _).1, ?_⟩
  have : ∀ k i, i ≤ n → rnk (fun k => decide (C k = 1000015)) k i ≤ n := by
    intro k
    induction k with
    | zero => intro i hi; exact hi
    | succ k ih =>
      intro i hi
      show (if decide (C i = 1000015) = true then rnk (fun k => decide (C k = 1000015)) k (i + 1) else i) ≤ n
      by_cases c : decide (C i = 1000015) = true
      · rw [if_pos c]
        have c := of_decide_eq_true c
        exact ih (i + 1) (TN_lt hT hi (by omega))
      · rw [if_neg c]; exact hi
  exact this 400 i hi
theorem plP_adv {n : Nat} {C : Nat → Nat} {p : Nat → Prop} {inn sm : Nat → Nat → Rs} (hT : TN n C) (hI : advB n inn) (hS : adv n p sm) : adv n (fun _ => True) (plP C inn sm) := by
  intro i q j r hi e
  obtain ⟨r1, r2⟩ := r
  obtain ⟨n1, n2⟩ := ntk_le hT hi
  unfold plP at e
  by_cases c : C (ntk C i) = 2000040
  · rw [if_pos c] at e
    obtain ⟨j1, q1, f1, e1, e2⟩ := thn_inv e
    have := hI _ _ _ _ (TN_lt hT n2 (by omega)) e1
    injection e2 with e3 _
    exact ⟨by omega, by omega, trivial⟩
  · rw [if_neg c] at e
    obtain ⟨j1, q1, f1, e1, e2⟩ := thn_inv e
    obtain ⟨x1, x2, x3⟩ := hS _ _ _ _ n2 e1
    by_cases d : 9 ≤ sgo (C j1) ∧ sgo (C j1) ≤ 11
    · rw [if_pos d] at e2
      have sg := sgo_sg (show 1 ≤ sgo (C j1) by omega)
      obtain ⟨j3, q3, f3, e3, e4⟩ := thn_inv e2
      obtain ⟨y1, y2, y3⟩ := hS _ _ _ _ (TN_lt hT x2 (by omega)) e3
      injection e4 with e5 _
      exact ⟨by omega, by omega, trivial⟩
    · rw [if_neg d] at e2
      injection e2 with _ e2
      cases e2
def tEnd (C : Nat → Nat) (j : Nat) : Prop := ¬ C j = 1000013 ∧ ¬ C j = 1000014
theorem ts_adv {n : Nat} {C : Nat → Nat} {inn sm : Nat → Nat → Rs} {p : Nat → Prop} (hT : TN n C) (hI : advB n inn) (hS : adv n p sm) : adv n (tEnd C) (lpW C 13 (lpW C 14 (plP C inn sm))) := adv_p (lpW_adv hT (by decide) (lpW_adv hT (by decide) (plP_adv hT hI hS))) (fun j h => ⟨by omega, by omega⟩)
theorem tsD_adv {n : Nat} {C : Nat → Nat} {law : Bool} (hT : TN n C) : ∀ d, adv n (tEnd C) (tsD C law d)
  | 0 => ts_adv hT inN_adv (smD_adv hT 0)
  | d + 1 => ts_adv hT (inO_adv hT (by decide) (tsD_adv hT d)) (smD_adv hT (d + 1))
