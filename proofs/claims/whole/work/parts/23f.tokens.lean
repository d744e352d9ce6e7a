/-! tokens: the class's list of them -/
def tls (b : Nat → Nat) (z : Nat) : Nat → Nat → List (Nat × Nat)
  | 0, _ => []
  | f + 1, p => if z ≤ p then [] else if b p = 32 then tls b z f (p + 1) else (p, tkc b p (bhd b z p)) :: tls b z f (bhd b z p)
theorem gd_l (A : List (Nat × Nat)) (x : Nat × Nat) {k : Nat} (h : k < A.length) : (A ++ [x]).getD k (0, 0) = A.getD k (0, 0) := by
  rw [List.getD_eq_getElem?_getD, List.getD_eq_getElem?_getD, List.getElem?_append_left h]
theorem gd_e (A : List (Nat × Nat)) (x : Nat × Nat) : (A ++ [x]).getD A.length (0, 0) = x := by
  rw [List.getD_eq_getElem?_getD, List.getElem?_append_right (Nat.le_refl _), Nat.sub_self]
  rfl
def STk2 (G : am_I) (A : List (Nat × Nat)) : Prop := ∀ k, k < A.length → G 22 k = nI (A.getD k (0, 0)).1 ∧ G 21 k = nI (A.getD k (0, 0)).2
theorem STk2_s {G : am_I} {A : List (Nat × Nat)} {s t : Nat} (h : STk2 G A) : STk2 (am_u (am_u G 22 A.length (nI s)) 21 A.length (nI t)) (A ++ [(s, t)]) := by
  intro k hk
  rw [List.length_append] at hk
  have l1 : [(s, t)].length = 1 := rfl
  by_cases e : k = A.length
  · subst e
    rw [gd_e, uu_c (by decide), uu_e, uu_e]
    exact ⟨rfl, rfl⟩
  · rw [gd_l A _ (by omega), uu_c (by decide), uu_n e, uu_n e, uu_c (by decide)]
    exact h k (by omega)
theorem l40 {I : am_I} {b : Nat → Nat} {z : Nat} {R : List (Nat × Nat)} {E : Int32 → Int32 → Int32 → am_I → Prop} (h : BY I b z) (hE : ∀ u v G, (∀ c, c ≠ 21 → c ≠ 22 → G c = I c) → STk2 G R → R.length ≤ 400 → E (nI R.length) u v G) : ∀ f i p (A : List (Nat × Nat)) G, i + f = 400 → i ≤ p → A.length ≤ i → (∀ c, c ≠ 21 → c ≠ 22 → G c = I c) → STk2 G A → p ≤ z → R = A ++ tls b z f p → lw_40_6 (f + 1) (nI A.length) (nI p) (nI i) G E
  | 0, i, p, A, G, hi, hp, ha, g, st, pz, e => by
    have e : R = A := by rw [e]; exact List.append_nil A
    subst e
    unfold lw_40_6
    rw [if_pos (show (400 : Int32) ≤ nI i from nI_le (a := 400) (by omega) (by omega))]
    exact hE _ _ G g st (by omega)
  | f + 1, i, p, A, G, hi, hp, ha, g, st, pz, e => by
    have z4 := h.1
    have hG : BY G b z := ⟨z4, by rw [g 14 (by decide) (by decide)]; exact h.2.1, fun k hk => by rw [g 15 (by decide) (by decide)]; exact h.2.2 k hk⟩
    have e : R = A ++ (if z ≤ p then [] else if b p = 32 then tls b z f (p + 1) else (p, tkc b p (bhd b z p)) :: tls b z f (bhd b z p)) := e
    unfold lw_40_6
    rw [if_neg (show ¬ (400 : Int32) ≤ nI i from nI_ge (b := 400) (by omega) (by decide)), hG.2.1]
    by_cases y : z ≤ p
    · rw [if_pos y, List.append_nil] at e
      subst e
      rw [if_pos (nI_le y (by omega))]
      exact hE _ _ G g st (by omega)
    · rw [if_neg y] at e
      obtain ⟨b1', b2⟩ := hG.2.2 p (by omega)
      obtain ⟨e1, e2⟩ := bhd_le b (show p < z by omega)
      rw [if_neg (nI_ge (by omega) (by omega))]
      refine ⟨nb_gd (by omega) (by decide), ?_⟩
      rw [nI_clamp (by omega : p < 2 ^ 31), b2]
      by_cases x : b p = 32
      · rw [if_pos x] at e
        refine am_ifp (by rw [x]; rfl) ?_
        rw [← nI_succ, ← nI_succ]
        exact l40 h hE f (i + 1) (p + 1) A G (by omega) (by omega) (by omega) g st (by omega) e
      · rw [if_neg x] at e
        refine am_ifn (fun q => x ((nb_inj (b := 32) (by omega) (by decide)).mp q)) ?_
        refine q41 hG (by omega) ⟨nb_gd (by omega) (by decide), ?_⟩
        rw [nI_clamp (by omega : A.length < 2 ^ 31)]
        have hG2 : BY (am_u G 22 A.length (nI p)) b z := ⟨z4, by rw [uu_c (by decide)]; exact hG.2.1, fun k hk => by rw [uu_c (by decide)]; exact hG.2.2 k hk⟩
        refine q44 hG2 (by omega) rfl ⟨fun k => ?_, ?_⟩
        · rcases k with k | k
          · exact absurd k (nI_pos (by omega))
          · omega
        · have l := l40 h hE f (i + 1) (bhd b z p) (A ++ [(p, tkc b p (bhd b z p))]) (am_u (am_u G 22 A.length (nI p)) 21 A.length (nI (tkc b p (bhd b z p)))) (by omega) (by omega) (by rw [List.length_append]; show A.length + 1 ≤ _; omega) (fun c c1 c2 => by rw [uu_h c1, uu_h c2]; exact g c c1 c2) (STk2_s st) e2 (by rw [e, List.append_assoc]; rfl)
          rw [List.length_append, show [(p, tkc b p (bhd b z p))].length = 1 from rfl, nI_succ, nI_succ] at l
          exact l
