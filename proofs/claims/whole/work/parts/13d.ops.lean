/-! prisoner, terms -/
theorem uu_id {f : am_I} {a i : Nat} : am_u f a i (f a i) = f := by
  funext b j
  by_cases hb : b = a
  · subst hb
    by_cases hj : j = i
    · subst hj
      exact uu_e
    · exact uu_n hj
  · exact uu_c hb
theorem st_m1 {I : am_I} {K : Int32 → am_I → Prop} (h : K (-1) (am_u (am_u I 66 1 (-1)) 67 1 (I 67 1 + 1))) : w_184 (-1) I K := by
  unfold w_184
  rw [if_neg (by decide), uu_id]
  exact tl1 h
theorem st_m5 {I : am_I} {K : Int32 → am_I → Prop} (h : K (-5) (am_u (am_u I 66 1 (-5)) 67 5 (I 67 5 + 1))) : w_184 (-5) I K := by
  unfold w_184
  rw [if_neg (by decide), uu_id]
  exact tl5 h
theorem st_0 {x : Int32} {I : am_I} {K : Int32 → am_I → Prop} (hx : 0 ≤ x) (h : K x (am_u (am_u I 66 8 0) 66 1 0)) : w_184 x I K := by
  unfold w_184
  rw [if_pos hx]
  exact tl0 hx h
theorem c182 (x : Int32) : f_182 x.toInt64 1 99 = f_13 x 1 99 := q182 x 1 99
theorem e182 (x : Int32) : f_182 x.toInt64 1 9 = f_13 x 1 9 := q182 x 1 9
/-- who can come: both sides ask the same -/
theorem q23 (x1 x2 x3 : Int32) : (f_23 x1 x2 x3 = 0 ∧ (f_13 x1 1 99 = 0 ∨ f_13 x2 0 9 = 0 ∨ f_13 x3 1 9 = 0)) ∨ (f_23 x1 x2 x3 = 1 ∧ f_13 x1 1 99 = 1 ∧ f_13 x2 0 9 = 1 ∧ f_13 x3 1 9 = 1 ∧ ∃ y w a, 1 ≤ y ∧ y ≤ 99 ∧ w ≤ 9 ∧ 1 ≤ a ∧ a < 10 ∧ x1 = nI y ∧ x2 = nI w ∧ x3 = nI a) := by
  unfold f_23 f_12
  rcases q13 x1 1 99 (by decide) (by decide) with ⟨a1, _⟩ | ⟨a1, y, hy1, hy2, e1⟩
  · have a1 : f_13 x1 1 99 = 0 := a1
    rw [if_pos a1]
    exact Or.inl ⟨rfl, Or.inl a1⟩
  have a1 : f_13 x1 1 99 = 1 := a1
  rw [if_neg (by rw [a1]; decide)]
  rcases q13 x2 0 9 (by decide) (by decide) with ⟨b1, _⟩ | ⟨b1, w, hw1, hw2, e2⟩
  · have b1 : f_13 x2 0 9 = 0 := b1
    rw [if_pos b1]
    exact Or.inl ⟨rfl, Or.inr (Or.inl b1)⟩
  have b1 : f_13 x2 0 9 = 1 := b1
  rw [if_neg (by rw [b1]; decide)]
  rcases q13 x3 1 9 (by decide) (by decide) with ⟨c1, g⟩ | ⟨c1, a, ha1, ha2, e3⟩
  · have c1 : f_13 x3 1 9 = 0 := c1
    refine Or.inl ⟨?_, Or.inr (Or.inr c1)⟩
    rcases q13 x3 0 9 (by decide) (by decide) with ⟨d1, _⟩ | ⟨d1, a, ha1, ha2, e3⟩
    · rw [if_pos (show f_13 x3 0 9 = 0 from d1)]
    · rw [if_neg (by rw [show f_13 x3 0 9 = 1 from d1]; decide)]
      rcases (by omega : a = 0 ∨ 1 ≤ a) with rfl | h
      · rw [if_pos (show x3 = 0 from e3)]
      · exact absurd e3 (g a h ha2)
  · have c1 : f_13 x3 1 9 = 1 := c1
    rcases q13 x3 0 9 (by decide) (by decide) with ⟨d1, g⟩ | ⟨d1, _⟩
    · exact absurd e3 (g a (by omega) ha2)
    · rw [if_neg (by rw [show f_13 x3 0 9 = 1 from d1]; decide)]
      rw [if_neg (by rw [e3]; exact nI_ne0 (by omega) (by omega))]
      exact Or.inr ⟨rfl, a1, b1, c1, y, w, a, hy1, hy2, hw2, ha1, by omega, e1, e2, e3⟩
/-- one who comes, in both -/
theorem inv_man {D : am_P} (hD : FrD D) {N : Nat} {T : Nat → Nat × Nat} {r : Nat → Nat → Option Nat} {I : am_I} {L : am_J} (h : Inv D N T r I L) {n v y w a : Nat} (hn : n < 8) (hv0 : v < 256) (e1 : I 1 10 = nI n) (e3 : I 1 9 = nI v) (hy1 : 1 ≤ y) (hy2 : y ≤ 99) (hw : w ≤ 9) (ha : a < 10) {J : am_I}
    (j0 : ∀ c, c ≠ 1 → c ≠ 4 → c ≠ 5 → c ≠ 6 → c ≠ 7 → c ≠ 8 → c ≠ 0 → c ≠ 14 → c ≠ 29 → c ≠ 66 → c ≠ 68 → J c = I c) (j1 : ∀ i, i ≠ 9 → i ≠ 10 → J 1 i = I 1 i) (j9 : J 1 9 = nI (sb v n 0)) (j10 : J 1 10 = nI (n + 1))
    (j4 : ∀ i, i ≠ n → J 4 i = I 4 i) (j5 : ∀ i, i ≠ n → J 5 i = I 5 i) (j6 : ∀ i, i ≠ n → J 6 i = I 6 i) (j7 : ∀ i, i ≠ n → J 7 i = I 7 i) (j8 : ∀ i, i ≠ n → J 8 i = I 8 i) (k4 : J 4 n = nI y) (k5 : J 5 n = nI w) (k6 : J 6 n = nI a) (k7 : J 7 n = 0) (k8 : J 8 n = 0)
    (jR : ∀ i, i ≠ 26 + n → i ≠ 34 + n → i ≠ 10 + n → i ≠ 18 + n → i ≠ 42 + n → i ≠ 50 + n → i ≠ 1 → J 68 i = I 68 i) (r1 : J 68 1 = nI (n + 1)) (r26 : J 68 (26 + n) = nI y) (r34 : J 68 (34 + n) = nI w) (r10 : J 68 (10 + n) = nI a) (r18 : J 68 (18 + n) = 0) (r42 : J 68 (42 + n) = 0) (r50 : J 68 (50 + n) = 0)
    (j29 : J 29 0 = 0) (j668 : J 66 8 = 0) (j010 : J 0 10 = 0) (jT : TPr (J 14 1) (J 66 13) (I 15) (I 75)) (jM : MSr (J 0) (I 65) (J 66) (I 67)) (jN : J 66 60 = I 66 60) (jN2 : J 66 61 = I 66 61) (jF : J 14 2 = I 14 2) (jF2 : J 66 18 = I 66 18) (jS : J 66 56 = I 66 56) (jO : J 66 20 = I 66 20) : Inv D N T r J L := by
  obtain ⟨⟨h1, h2, h3, h4, h5, h6, h7, h8, h9, f1, f2, f3, f4, f5⟩, hdd⟩ := h
  have q : ∀ c, c ≠ 1 → c ≠ 4 → c ≠ 5 → c ≠ 6 → c ≠ 7 → c ≠ 8 → c ≠ 0 → c ≠ 14 → c ≠ 29 → c ≠ 66 → c ≠ 68 → J c = I c := j0
  have J2 : J 2 = I 2 := by apply q <;> decide
  have J3 : J 3 = I 3 := by apply q <;> decide
  have J9 : J 9 = I 9 := by apply q <;> decide
  have J10 : J 10 = I 10 := by apply q <;> decide
  have J12 : J 12 = I 12 := by apply q <;> decide
  have J15 : J 15 = I 15 := by apply q <;> decide
  have J75 : J 75 = I 75 := by apply q <;> decide
  have J63 : J 63 = I 63 := by apply q <;> decide
  have J64 : J 64 = I 64 := by apply q <;> decide
  have J98 : J 98 = I 98 := by apply q <;> decide
  have J65 : J 65 = I 65 := by apply q <;> decide
  have J67 : J 67 = I 67 := by apply q <;> decide
  have J35 : J 35 = I 35 := by apply q <;> decide
  have J92 : J 92 = I 92 := by apply q <;> decide
  have J69 : J 69 = I 69 := by apply q <;> decide
  have J70 : J 70 = I 70 := by apply q <;> decide
  obtain ⟨m, v', hm, hv, a1, a2, a3, hp⟩ := h2
  have em : m = n := by
    rw [e1] at a1
    exact ((nb_inj (by omega) (by omega)).mp a1).symm
  subst em
  have ev : v' = v := by
    rw [e3] at a3
    exact ((nb_inj (by omega) (by omega)).mp a3).symm
  subst ev
  refine ⟨⟨?_, ?_, ?_, ?_, ?_, ?_, ?_, ?_, ?_, ?_⟩, hD _ _ _ I _ _ ⟨fun c hc => ?_, j1 15 (by decide) (by decide), fun i hi => jR i (by omega) (by omega) (by omega) (by omega) (by omega) (by omega) (by omega), J69, J70, Or.inl j010⟩ hdd⟩
  · exact PRd_cg h1 (j1 2 (by decide) (by decide)) (j1 3 (by decide) (by decide)) (fun d _ => by rw [J2]) (fun d _ => by rw [J3]) (jR 0 (by omega) (by omega) (by omega) (by omega) (by omega) (by omega) (by omega)) (fun i g1 g2 => jR i (by omega) (by omega) (by omega) (by omega) (by omega) (by omega) (by omega))
  · refine ⟨m + 1, sb v' m 0, by omega, sb_lt (n := 8) hv (by omega) (by decide) (by decide), j10, r1, j9, fun p hpm => ?_⟩
    rw [bi_sb (by omega) (by decide)]
    by_cases e : p = m
    · subst e
      rw [if_pos rfl]
      exact ⟨r50, y, w, a, 0, 0, hy1, hy2, hw, ha, by decide, by decide, k4, k5, k6, k7, k8, r26, r34, r10, r18, r42⟩
    · rw [if_neg e]
      obtain ⟨z1, y', w', a', k', t', b1, b2, b3, b4, b5, b6, q1, q2, q3, q4, q5, s1, s2, s3, s4, s5⟩ := hp p (by omega)
      have jj : ∀ i, i ≠ 26 + m → i ≠ 34 + m → i ≠ 10 + m → i ≠ 18 + m → i ≠ 42 + m → i ≠ 50 + m → i ≠ 1 → J 68 i = I 68 i := jR
      exact ⟨(jj _ (by omega) (by omega) (by omega) (by omega) (by omega) (by omega) (by omega)).trans z1, y', w', a', k', t', b1, b2, b3, b4, b5, b6, (j4 p e).trans q1, (j5 p e).trans q2, (j6 p e).trans q3, (j7 p e).trans q4, (j8 p e).trans q5, (jj _ (by omega) (by omega) (by omega) (by omega) (by omega) (by omega) (by omega)).trans s1, (jj _ (by omega) (by omega) (by omega) (by omega) (by omega) (by omega) (by omega)).trans s2, (jj _ (by omega) (by omega) (by omega) (by omega) (by omega) (by omega) (by omega)).trans s3, (jj _ (by omega) (by omega) (by omega) (by omega) (by omega) (by omega) (by omega)).trans s4, (jj _ (by omega) (by omega) (by omega) (by omega) (by omega) (by omega) (by omega)).trans s5⟩
  · obtain ⟨c, m', hc, hm', b1, b2, b3, b4⟩ := h3
    have em' : m' = m := by
      rw [a2] at b3
      exact ((nb_inj (by omega) (by omega)).mp b3).symm
    subst em'
    refine ⟨c, m' + 1, hc, by omega, (j1 13 (by decide) (by decide)).trans b1, (jR 2 (by omega) (by omega) (by omega) (by omega) (by omega) (by omega) (by omega)).trans b2, r1, fun k hk => ?_⟩
    obtain ⟨g, i, hg, hi, c1, c2, c3, c4⟩ := b4 k hk
    exact ⟨g, i, Nat.lt_of_lt_of_le hg (Nat.pow_le_pow_right (by decide) (by omega)), hi, by rw [J9]; exact c1, by rw [J10]; exact c2, (jR _ (by omega) (by omega) (by omega) (by omega) (by omega) (by omega) (by omega)).trans c3, (jR _ (by omega) (by omega) (by omega) (by omega) (by omega) (by omega) (by omega)).trans c4⟩
  · exact PRl_cg h4 (j1 15 (by decide) (by decide)) (j1 16 (by decide) (by decide)) (jR 3 (by omega) (by omega) (by omega) (by omega) (by omega) (by omega) (by omega)) (jR 4 (by omega) (by omega) (by omega) (by omega) (by omega) (by omega) (by omega))
  · rw [J12]
    exact PRt_cg h5 (j1 18 (by decide) (by decide)) (fun i g1 g2 => jR i (by omega) (by omega) (by omega) (by omega) (by omega) (by omega) (by omega))
  · rw [J15, J75]
    exact jT
  · exact UNr_0 (m := m + 1) (by omega) r1 j29 j668
  · rw [J63, J64, J98, jN, jN2]
    exact h8
  · rw [J65, J67]
    exact jM
  · exact ⟨by rw [jF, jF2]; exact f1, by rw [J35, jS]; exact f2, by rw [jO]; exact f3, by rw [J92]; exact f4, f5⟩
  · exact j0 c (by omega) (by omega) (by omega) (by omega) (by omega) (by omega) (by omega) (by omega) (by omega) (by omega) (by omega)
