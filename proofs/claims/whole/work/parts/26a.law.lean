/-! law: the reference writes down what it read -/
theorem l110 {G0 : am_I} {H : am_J} {bs nc : Nat} {v1 : Int32} {E : Int32 → am_I → Prop} (ev : v1 = nI bs) (hb : bs ≤ 4610) (hn : nc ≤ 12) (e21 : G0 66 21 = nI nc) (hE : ∀ v G, (∀ a, a ≠ 68 → G a = G0 a) → (∀ i, i < bs + 2 ∨ bs + 98 ≤ i → G 68 i = G0 68 i) → (∀ j, j < 8 * nc → G 68 (bs + 2 + j) = G0 76 j) → E v G) : ∀ k v G, v + k = 8 * nc → (∀ a, a ≠ 68 → G a = G0 a) → (∀ i, i < bs + 2 ∨ bs + 98 ≤ i → G 68 i = G0 68 i) → (∀ j, j < v → G 68 (bs + 2 + j) = G0 76 j) → lw_204_110 (k + 1) v1 (nI v) G H E := by
  intro k
  induction k with
  | zero =>
    intro v G hv h1 h2 h3
    unfold lw_204_110
    rw [h1 66 (by decide), e21, show (8 : Int32) = nI 8 from rfl, nb_mul, if_pos (nI_le (by omega) (by omega))]
    exact hE _ G h1 h2 (fun j hj => h3 j (by omega))
  | succ k ih =>
    intro v G hv h1 h2 h3
    have x0 : v1 + 2 + nI v = nI (bs + 2 + v) := by rw [ev, show (2 : Int32) = nI 2 from rfl, nb_add, nb_add]
    unfold lw_204_110
    rw [h1 66 (by decide), e21, show (8 : Int32) = nI 8 from rfl, nb_mul, if_neg (nI_ge (by omega) (by omega))]
    refine ⟨nb_gd (by omega) (by decide), nb_gdx x0 (by omega) (by decide), ?_⟩
    rw [nb_cl x0 (by omega), nI_clamp (by omega), ← nI_succ, h1 76 (by decide)]
    refine ih (v + 1) _ (by omega) (fun a ha => ?_) (fun i hi => ?_) (fun j hj => ?_)
    · rw [uu_h ha]; exact h1 a ha
    · rw [uu_n (by omega)]; exact h2 i hi
    · by_cases e : j = v
      · rw [e, uu_e]
      · rw [uu_n (by omega)]; exact h3 j (by omega)
theorem l145 {G0 : am_I} {H : am_J} {bs s : Nat} {v1 : Int32} {E : Int32 → am_I → Prop} (ev : v1 = nI bs) (hb : bs ≤ 4610) (hn : s ≤ 400) (e23 : G0 66 23 = nI s) (hE : ∀ v G, (∀ a, a ≠ 68 → G a = G0 a) → (∀ i, i < bs + 98 ∨ bs + 900 ≤ i → G 68 i = G0 68 i) → (∀ j, j < s → G 68 (bs + 98 + 2 * j) = G0 77 j ∧ G 68 (bs + 98 + 2 * j + 1) = G0 78 j) → E v G) : ∀ k v G, v + k = s → (∀ a, a ≠ 68 → G a = G0 a) → (∀ i, i < bs + 98 ∨ bs + 900 ≤ i → G 68 i = G0 68 i) → (∀ j, j < v → G 68 (bs + 98 + 2 * j) = G0 77 j ∧ G 68 (bs + 98 + 2 * j + 1) = G0 78 j) → lw_204_145 (k + 1) v1 (nI v) G H E := by
  intro k
  induction k with
  | zero =>
    intro v G hv h1 h2 h3
    unfold lw_204_145
    rw [h1 66 (by decide), e23, if_pos (nI_le (by omega) (by omega))]
    exact hE _ G h1 h2 (fun j hj => h3 j (by omega))
  | succ k ih =>
    intro v G hv h1 h2 h3
    have x0 : v1 + 98 + 2 * nI v = nI (bs + 98 + 2 * v) := by rw [ev, show (98 : Int32) = nI 98 from rfl, show (2 : Int32) = nI 2 from rfl, nb_mul, nb_add, nb_add]
    have x1 : v1 + 98 + 2 * nI v + 1 = nI (bs + 98 + 2 * v + 1) := by rw [x0]; exact (nI_succ _).symm
    unfold lw_204_145
    rw [h1 66 (by decide), e23, if_neg (nI_ge (by omega) (by omega))]
    refine ⟨nb_gd (by omega) (by decide), nb_gdx x0 (by omega) (by decide), nb_gd (by omega) (by decide), nb_gdx x1 (by omega) (by decide), ?_⟩
    rw [nb_cl x1 (by omega), nb_cl x0 (by omega), nI_clamp (by omega), ← nI_succ, h1 77 (by decide), h1 78 (by decide)]
    refine ih (v + 1) _ (by omega) (fun a ha => ?_) (fun i hi => ?_) (fun j hj => ?_)
    · rw [uu_h ha, uu_h ha]; exact h1 a ha
    · rw [uu_n (by omega), uu_n (by omega)]; exact h2 i hi
    · by_cases e : j = v
      · rw [e]
        refine ⟨?_, uu_e⟩
        rw [uu_n (by omega), uu_e]
      · rw [uu_n (by omega), uu_n (by omega)]
        refine ⟨(h3 j (by omega)).1, ?_⟩
        rw [uu_n (by omega), uu_n (by omega)]
        exact (h3 j (by omega)).2
/-- the end of 'law' in the reference -/
def END4 (I15 : am_I) (L16 : am_J) (K : Int32 → am_I → am_J → Prop) : Prop := ¬ (((110 + (900 * (I15 68 3))) + 1) < 0 ∨ 5510 ≤ Int32.toNatClampNeg ((110 + (900 * (I15 68 3))) + 1)) ∧
  ∃ n110, lw_204_110 n110 (110 + (900 * (I15 68 3))) 0 (am_u I15 68 (Int32.toNatClampNeg ((110 + (900 * (I15 68 3))) + 1)) (I15 66 21)) L16 (fun o17 I18 =>
    ∃ n145, lw_204_145 n145 (110 + (900 * (I15 68 3))) 0 I18 L16 (fun o19 I20 =>
      w_179 (((I20 68 3) + 1) - 1) (am_u I20 68 3 ((I20 68 3) + 1)) (fun q21 I22 =>
        K q21 I22 L16)))
def wrt (I J : am_I) (k nc s : Nat) : Prop := (∀ a, a ≠ 66 → a ≠ 68 → J a = I a) ∧ (∀ i, i ≠ 1 → J 66 i = I 66 i) ∧ J 66 1 = 0 ∧ (∀ i, i ≠ 3 → (i < 111 + 900 * k ∨ 1010 + 900 * k ≤ i) → J 68 i = I 68 i) ∧ J 68 3 = nI (k + 1) ∧ J 68 (110 + 900 * k + 1) = nI nc ∧ (∀ j, j < 8 * nc → J 68 (110 + 900 * k + 2 + j) = I 76 j) ∧ ∀ j, j < s → J 68 (110 + 900 * k + 98 + 2 * j) = I 77 j ∧ J 68 (110 + 900 * k + 98 + 2 * j + 1) = I 78 j
theorem e204 {I : am_I} {L : am_J} {k nc s : Nat} {K : Int32 → am_I → am_J → Prop} (hk : k < 6) (hn : nc ≤ 12) (hs : s ≤ 400) (e3 : I 68 3 = nI k) (e21 : I 66 21 = nI nc) (e23 : I 66 23 = nI s) (hK : ∀ J, wrt I J k nc s → K (nI k) J L) : END4 I L K := by
  have xb : (110 : Int32) + 900 * I 68 3 = nI (110 + 900 * k) := by rw [e3, show (110 : Int32) = nI 110 from rfl, show (900 : Int32) = nI 900 from rfl, nb_mul, nb_add]
  have x1 : (110 : Int32) + 900 * I 68 3 + 1 = nI (110 + 900 * k + 1) := by rw [xb]; exact (nI_succ _).symm
  unfold END4
  refine ⟨nb_gdx x1 (by omega) (by decide), ?_⟩
  rw [nb_cl x1 (by omega), xb, e21]
  refine ⟨8 * nc + 1, l110 (nc := nc) rfl (by omega) hn (by rw [uu_c (by decide)]; exact e21) (fun v G h1 h2 h3 => ?_) (8 * nc) 0 _ (by omega) (fun _ _ => rfl) (fun _ _ => rfl) (fun j hj => absurd hj (Nat.not_lt_zero _))⟩
  refine ⟨s + 1, l145 (s := s) rfl (by omega) hs (by rw [h1 66 (by decide), uu_c (by decide)]; exact e23) (fun v G2 g1 g2 g3 => ?_) s 0 _ (by omega) (fun _ _ => rfl) (fun _ _ => rfl) (fun j hj => absurd hj (Nat.not_lt_zero _))⟩
  have y3 : G2 68 3 = nI k := by rw [g2 3 (Or.inl (by omega)), h2 3 (Or.inl (by omega)), uu_n (by omega)]; exact e3
  rw [y3, show nI k + 1 = nI (k + 1) from (nI_succ k).symm, show nI (k + 1) - 1 = nI k from nI_sub (c := 1) (by omega)]
  refine tl0 (by rw [show (0 : Int32) = nI 0 from rfl]; exact nI_le (Nat.zero_le _) (by omega)) (hK _ ⟨fun a a1 a2 => ?_, fun i hi => ?_, uu_e, fun i i1 i2 => ?_, ?_, ?_, fun j hj => ?_, fun j hj => ⟨?_, ?_⟩⟩)
  · rw [uu_h a1, uu_h a2, g1 a a2, h1 a a2, uu_h a2]
  · rw [uu_n hi, uu_c (by decide), g1 66 (by decide), h1 66 (by decide), uu_c (by decide)]
  · rw [uu_c (by decide), uu_n i1, g2 i (by omega), h2 i (by omega), uu_n (by omega)]
  · rw [uu_c (by decide), uu_e]
  · rw [uu_c (by decide), uu_n (by omega), g2 _ (Or.inl (by omega)), h2 _ (Or.inl (by omega)), uu_e]
  · rw [uu_c (by decide), uu_n (by omega), g2 _ (Or.inl (by omega)), h3 j hj, uu_c (by decide)]
  · rw [uu_c (by decide), uu_n (by omega), (g3 j hj).1, h1 77 (by decide), uu_c (by decide)]
  · rw [uu_c (by decide), uu_n (by omega), (g3 j hj).2, h1 78 (by decide), uu_c (by decide)]
