/-! tokens: the reference's side, spaces -/
def BYr (I : am_I) (b : Nat → Nat) (z : Nat) : Prop := z ≤ 400 ∧ I 66 13 = nI z ∧ ∀ k, k < z → b k < 256 ∧ I 75 k = nI (b k)
def fr14 (I G : am_I) : Prop := (∀ c, c ≠ 66 → G c = I c) ∧ ∀ k, k ≠ 14 → G 66 k = I 66 k
def tS (n : Nat) : Bool := decide (n = 32)
theorem l207s {I : am_I} {L : am_J} {b : Nat → Nat} {z : Nat} {E : am_I → Prop} (h : BYr I b z) : ∀ k p G, p + k = z → fr14 I G → G 66 14 = nI p → (∀ H, fr14 I H → H 66 14 = nI (rnz (fun i => tS (b i)) z p) → E H) → lw_207_8 (k + 1) G L E
  | 0, p, G, hz, g, e, hE => by
    have e1 : p = z := by omega
    subst e1
    have z4 := h.1
    rw [rnz_z] at hE
    unfold lw_207_8
    rw [e, g.2 13 (by decide), h.2.1, if_pos (nI_le (Nat.le_refl _) (by omega))]
    exact hE G g e
  | k + 1, p, G, hz, g, e, hE => by
    have z4 := h.1
    obtain ⟨b1', b2⟩ := h.2.2 p (by omega)
    unfold lw_207_8
    rw [e, g.2 13 (by decide), h.2.1, if_neg (nI_ge (by omega) (by omega))]
    refine ⟨nb_gd (by omega) (by decide), ?_⟩
    rw [nI_clamp (by omega : p < 2 ^ 31), g.1 75 (by decide), b2]
    by_cases y : b p = 32
    · have t : tS (b p) = true := decide_eq_true y
      rw [rnz_s (f := fun i => tS (b i)) (by omega) t] at hE
      refine am_ifp (by rw [y]; rfl) ?_
      rw [← nI_succ]
      refine l207s h k (p + 1) _ (by omega) ⟨fun c hc => ?_, fun j hj => ?_⟩ uu_e hE
      · rw [uu_h hc]; exact g.1 c hc
      · rw [uu_n hj]; exact g.2 j hj
    · have t : tS (b p) = false := decide_eq_false y
      rw [rnz_n (f := fun i => tS (b i)) (by omega) t] at hE
      exact am_ifn (fun q => y ((nb_inj (b := 32) (by omega) (by decide)).mp q)) (hE G g e)
