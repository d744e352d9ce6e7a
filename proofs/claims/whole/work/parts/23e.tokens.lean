/-! tokens: the class's token -/
theorem bhd_d {b : Nat → Nat} {z p : Nat} (hp : p < z) (hl : tL (b p) = false) (hd : tD (b p) = true) : ∀ i, p ≤ i → i < bhd b z p → tD (b i) = true := by
  intro i h1 h2
  unfold bhd at h2
  rw [if_neg (by rw [hl]; decide), if_pos hd] at h2
  by_cases e : i = p
  · subst e; exact hd
  · exact rnz_all (f := fun i => tD (b i)) (z - (p + 1)) (p + 1) (by omega) i (by omega) h2
theorem q44 {I : am_I} {b : Nat → Nat} {z p e : Nat} {K : Int32 → Prop} (h : BY I b z) (hp : p < z) (he : e = bhd b z p) (hK : K (nI (tkc b p e))) : w_44 (nI p) (nI e) I K := by
  have z4 := h.1
  obtain ⟨b1', b2⟩ := h.2.2 p hp
  obtain ⟨e1, e2⟩ := bhd_le b hp
  unfold tkc at hK
  generalize hf : wsL = f at hK
  have g : ¬ (nI p < 0 ∨ 400 ≤ p) := fun k => by
    rcases k with k | k
    · exact absurd k (nI_pos (by omega))
    · omega
  unfold w_44
  refine ⟨nb_gd (by omega) (by decide), ?_⟩
  rw [nI_clamp (by omega : p < 2 ^ 31), b2, f42 _ b1', f43 _ b1']
  cases hl : tL (b p) with
  | true =>
    rw [if_pos hl] at hK
    refine am_ifn (show ¬ b1 true = 0 by decide) (q45 hf.symm h (by omega) (by omega) ?_)
    rw [show (1000000 : Int32) = nI 1000000 from rfl, nb_add]
    exact hK
  | false =>
    rw [if_neg (by rw [hl]; decide)] at hK
    refine am_ifp rfl ⟨g, ?_⟩
    cases hd : tD (b p) with
    | true =>
      rw [if_pos hd] at hK
      refine am_ifn (show ¬ b1 true = 0 by decide) ⟨e - p + 1, ?_⟩
      exact l44 (E := fun o1 _ => K o1) h (by omega) (fun i i1 i2 => bhd_d hp hl hd i i1 (by omega)) (fun _ => hK) (e - p) 0 (by omega)
    | false =>
      rw [if_neg (by rw [hd]; decide)] at hK
      refine am_ifp rfl ⟨g, ?_⟩
      rw [show (2000000 : Int32) = nI 2000000 from rfl, nb_add]
      exact hK
