/-! rows copied by loops; what the reference remembers -/
def cpl (I : am_I) (a : Nat) (f : Nat → Int32) (o j : Nat) : am_I := fun c k => if c = a ∧ o ≤ k ∧ k < o + j then f (k - o) else I c k
theorem cpl_0 {I : am_I} {a o : Nat} {f : Nat → Int32} : cpl I a f o 0 = I := by
  funext c k
  unfold cpl
  rw [if_neg (by omega)]
theorem cpl_c {I : am_I} {a o j c : Nat} {f : Nat → Int32} (h : c ≠ a) : cpl I a f o j c = I c := by
  funext k
  unfold cpl
  rw [if_neg (fun q => h q.1)]
theorem cpl_in {I : am_I} {a o j i : Nat} {f : Nat → Int32} (h : i < j) : cpl I a f o j a (o + i) = f i := by
  unfold cpl
  rw [if_pos ⟨rfl, by omega, by omega⟩, show o + i - o = i by omega]
theorem cpl_out {I : am_I} {a o j k : Nat} {f : Nat → Int32} (h : k < o ∨ o + j ≤ k) : cpl I a f o j a k = I a k := by
  unfold cpl
  rw [if_neg (by omega)]
theorem cpl_s {I : am_I} {a o j : Nat} {f : Nat → Int32} : am_u (cpl I a f o j) a (o + j) (f j) = cpl I a f o (j + 1) := by
  funext c k
  by_cases hc : c = a
  · subst hc
    by_cases hk : k = o + j
    · subst hk
      rw [uu_e, cpl_in (by omega)]
    · rw [uu_n hk]
      by_cases h : o ≤ k ∧ k < o + j
      · rw [show k = o + (k - o) by omega, cpl_in (by omega), cpl_in (by omega)]
      · rw [cpl_out (by omega), cpl_out (by omega)]
  · rw [uu_c hc, cpl_c hc, cpl_c hc]
theorem cpl_s0 {I : am_I} {a j : Nat} {f : Nat → Int32} : am_u (cpl I a f 0 j) a j (f j) = cpl I a f 0 (j + 1) := by
  have h := cpl_s (I := I) (a := a) (o := 0) (j := j) (f := f)
  rw [Nat.zero_add] at h
  exact h
theorem l256 {I : am_I} {x : Nat} {E : Int32 → am_I → Prop} (hx : x ≤ 17) (hE : ∀ v, E v (cpl I 71 (fun i => I 68 (5 + i)) (21 * x) 21)) : ∀ k j, j + k = 21 → lw_256_2 (k + 1) (nI x) (nI j) (cpl I 71 (fun i => I 68 (5 + i)) (21 * x) j) E
  | 0, j, h => by
    have hj : j = 21 := by omega
    subst hj
    unfold lw_256_2
    rw [if_pos (show (21 : Int32) ≤ nI 21 from nI_le (a := 21) (Nat.le_refl _) (by decide))]
    exact hE _
  | k + 1, j, h => by
    have ih := l256 (I := I) hx hE k (j + 1) (by omega)
    unfold lw_256_2
    rw [if_neg (show ¬ (21 : Int32) ≤ nI j from nI_ge (b := 21) (by omega) (by decide))]
    have x0 : (5 : Int32) + nI j = nI (5 + j) := by
      simp only [fa_lit, nb_mul, nb_add]
    have x1 : (21 : Int32) * nI x + nI j = nI (21 * x + j) := by
      simp only [fa_lit, nb_mul, nb_add]
    refine ⟨nb_gdx x0 (by omega) (by decide), nb_gdx x1 (by omega) (by decide), ?_⟩
    rw [nb_cl x0 (by omega), nb_cl x1 (by omega), ← nI_succ]
    rw [show cpl I 71 (fun i => I 68 (5 + i)) (21 * x) j 68 (5 + j) = (fun i => I 68 (5 + i)) j from (by rw [cpl_c (by decide)])]
    rw [cpl_s]
    exact ih
theorem l255a {I : am_I} {x0 : Int32} {E : Int32 → am_I → Prop} (hE : ∀ v, E v (cpl I 71 (fun i => I 71 (i + 21)) (0) 315)) : ∀ k j, j + k = 315 → lw_255_11 (k + 1) x0 (nI j) (cpl I 71 (fun i => I 71 (i + 21)) (0) j) E
  | 0, j, h => by
    have hj : j = 315 := by omega
    subst hj
    unfold lw_255_11
    rw [if_pos (show (315 : Int32) ≤ nI 315 from nI_le (a := 315) (Nat.le_refl _) (by decide))]
    exact hE _
  | k + 1, j, h => by
    have ih := l255a (I := I) (x0 := x0) hE k (j + 1) (by omega)
    unfold lw_255_11
    rw [if_neg (show ¬ (315 : Int32) ≤ nI j from nI_ge (b := 315) (by omega) (by decide))]
    have x0 : nI j + (21 : Int32) = nI (j + 21) := by
      simp only [fa_lit, nb_mul, nb_add]
    have x1 : nI j = nI (j) := by
      simp only [fa_lit, nb_mul, nb_add]
    refine ⟨nb_gdx x0 (by omega) (by decide), nb_gdx x1 (by omega) (by decide), ?_⟩
    rw [nb_cl x0 (by omega), nb_cl x1 (by omega), ← nI_succ]
    rw [show cpl I 71 (fun i => I 71 (i + 21)) (0) j 71 (j + 21) = (fun i => I 71 (i + 21)) j from (by rw [cpl_out (by omega)])]
    rw [cpl_s0]
    exact ih
theorem l255b {I : am_I} {x0 : Int32} {E : Int32 → am_I → Prop} (hE : ∀ v, E v (cpl I 72 (fun i => I 72 (i + 1)) (0) 15)) : ∀ k j, j + k = 15 → lw_255_41 (k + 1) x0 (nI j) (cpl I 72 (fun i => I 72 (i + 1)) (0) j) E
  | 0, j, h => by
    have hj : j = 15 := by omega
    subst hj
    unfold lw_255_41
    rw [if_pos (show (15 : Int32) ≤ nI 15 from nI_le (a := 15) (Nat.le_refl _) (by decide))]
    exact hE _
  | k + 1, j, h => by
    have ih := l255b (I := I) (x0 := x0) hE k (j + 1) (by omega)
    unfold lw_255_41
    rw [if_neg (show ¬ (15 : Int32) ≤ nI j from nI_ge (b := 15) (by omega) (by decide))]
    have x0 : nI j + (1 : Int32) = nI (j + 1) := by
      simp only [fa_lit, nb_mul, nb_add]
    have x1 : nI j = nI (j) := by
      simp only [fa_lit, nb_mul, nb_add]
    refine ⟨nb_gdx x0 (by omega) (by decide), nb_gdx x1 (by omega) (by decide), ?_⟩
    rw [nb_cl x0 (by omega), nb_cl x1 (by omega), ← nI_succ]
    rw [show cpl I 72 (fun i => I 72 (i + 1)) (0) j 72 (j + 1) = (fun i => I 72 (i + 1)) j from (by rw [cpl_out (by omega)])]
    rw [cpl_s0]
    exact ih
theorem l180 {I : am_I} {x : Nat} {E : Int32 → am_I → Prop} (hx : x ≤ 17) (hE : ∀ v, E v (cpl I 68 (fun i => I 71 (21 * x + i)) (5) 21)) : ∀ k j, j + k = 21 → lw_180_2 (k + 1) (nI x) (nI j) (cpl I 68 (fun i => I 71 (21 * x + i)) (5) j) E
  | 0, j, h => by
    have hj : j = 21 := by omega
    subst hj
    unfold lw_180_2
    rw [if_pos (show (21 : Int32) ≤ nI 21 from nI_le (a := 21) (Nat.le_refl _) (by decide))]
    exact hE _
  | k + 1, j, h => by
    have ih := l180 (I := I) hx hE k (j + 1) (by omega)
    unfold lw_180_2
    rw [if_neg (show ¬ (21 : Int32) ≤ nI j from nI_ge (b := 21) (by omega) (by decide))]
    have x0 : (21 : Int32) * nI x + nI j = nI (21 * x + j) := by
      simp only [fa_lit, nb_mul, nb_add]
    have x1 : (5 : Int32) + nI j = nI (5 + j) := by
      simp only [fa_lit, nb_mul, nb_add]
    refine ⟨nb_gdx x0 (by omega) (by decide), nb_gdx x1 (by omega) (by decide), ?_⟩
    rw [nb_cl x0 (by omega), nb_cl x1 (by omega), ← nI_succ]
    rw [show cpl I 68 (fun i => I 71 (21 * x + i)) (5) j 71 (21 * x + j) = (fun i => I 71 (21 * x + i)) j from (by rw [cpl_c (by decide)])]
    rw [cpl_s]
    exact ih
theorem q256 {I : am_I} {x : Nat} {K : am_I → Prop} (hx : x ≤ 17) (hK : K (cpl I 71 (fun i => I 68 (5 + i)) (21 * x) 21)) : w_256 (nI x) I K := by
  unfold w_256
  have q := l256 (I := I) (E := fun _ J => K J) hx (fun _ => hK) 21 0 (by omega)
  rw [cpl_0] at q
  exact ⟨22, q⟩
theorem q180 {I : am_I} {x : Nat} {K : am_I → Prop} (hx : x ≤ 17) (hK : K (cpl I 68 (fun i => I 71 (21 * x + i)) 5 21)) : w_180 (nI x) I K := by
  unfold w_180
  have q := l180 (I := I) (E := fun _ J => K J) hx (fun _ => hK) 21 0 (by omega)
  rw [cpl_0] at q
  exact ⟨22, q⟩
/-- what the reference remembers: t the place, s by how much the older ones moved down -/
def rmb (I J : am_I) (t s : Nat) (x0 : Int32) : Prop := (∀ c, c ≠ 66 → c ≠ 71 → c ≠ 72 → J c = I c) ∧ (∀ i, i ≠ 8 → J 66 i = I 66 i) ∧ J 66 8 = nI (t + 1) ∧ (∀ k, k < 21 * t → J 71 k = I 71 (k + 21 * s)) ∧ (∀ i, i < 21 → J 71 (21 * t + i) = I 68 (5 + i)) ∧ (∀ j, j < t → J 72 j = I 72 (j + s)) ∧ J 72 t = x0 ∧ ∀ k, 336 ≤ k → J 71 k = I 71 k
theorem q255 {I : am_I} {u : Nat} {x0 : Int32} {K : am_I → Prop} (hu : u ≤ 16) (e : I 66 8 = nI u) (hK : ∀ J t s, t ≤ 15 → t + s = u → s ≤ 1 → (s = 0 ∨ u = 16) → rmb I J t s x0 → K J) : w_255 x0 I K := by
  unfold w_255
  by_cases h16 : u = 16
  · subst h16
    rw [if_pos (by rw [e]; rfl)]
    have q1 := l255a (I := I) (x0 := x0) (E := fun _ J => ∃ n41, lw_255_41 n41 x0 0 J (fun o4 I5 => w_256 ((I5 66 8) - 1) (am_u I5 66 8 ((I5 66 8) - 1)) (fun I6 => ¬ ((I6 66 8) < 0 ∨ 16 ≤ Int32.toNatClampNeg (I6 66 8)) ∧ K (am_u (am_u I6 72 (Int32.toNatClampNeg (I6 66 8)) x0) 66 8 ((I6 66 8) + 1)))))
    refine ⟨316, ?_⟩
    have q2 := q1 (fun _ => ?_) 315 0 (by omega)
    · rw [cpl_0] at q2
      exact q2
    · generalize hA : cpl I 71 (fun i => I 71 (i + 21)) 0 315 = A
      have A66 : A 66 = I 66 := by rw [← hA, cpl_c (by decide)]
      have A68 : A 68 = I 68 := by rw [← hA, cpl_c (by decide)]
      have A72 : A 72 = I 72 := by rw [← hA, cpl_c (by decide)]
      refine ⟨16, ?_⟩
      have q3 := l255b (I := A) (x0 := x0) (E := fun _ I5 => w_256 ((I5 66 8) - 1) (am_u I5 66 8 ((I5 66 8) - 1)) (fun I6 => ¬ ((I6 66 8) < 0 ∨ 16 ≤ Int32.toNatClampNeg (I6 66 8)) ∧ K (am_u (am_u I6 72 (Int32.toNatClampNeg (I6 66 8)) x0) 66 8 ((I6 66 8) + 1)))) (fun _ => ?_) 15 0 (by omega)
      · rw [cpl_0] at q3
        exact q3
      · generalize hB : cpl A 72 (fun i => A 72 (i + 1)) 0 15 = B
        have B66 : B 66 8 = nI 16 := by rw [← hB, cpl_c (by decide), A66, e]
        show w_256 (B 66 8 - 1) (am_u B 66 8 (B 66 8 - 1)) _
        rw [B66, show nI 16 - 1 = nI 15 from rfl]
        refine q256 (by decide) ?_
        generalize hC : cpl (am_u B 66 8 (nI 15)) 71 (fun i => am_u B 66 8 (nI 15) 68 (5 + i)) (21 * 15) 21 = C
        have C66 : C 66 8 = nI 15 := by rw [← hC, cpl_c (by decide)]; exact uu_e
        show ¬ (C 66 8 < 0 ∨ 16 ≤ Int32.toNatClampNeg (C 66 8)) ∧ K (am_u (am_u C 72 (Int32.toNatClampNeg (C 66 8)) x0) 66 8 (C 66 8 + 1))
        rw [C66]
        refine ⟨by decide, ?_⟩
        rw [show Int32.toNatClampNeg (nI 15) = 15 from rfl, show nI 15 + 1 = nI (15 + 1) from rfl]
        refine hK _ 15 1 (by decide) rfl (by decide) (Or.inr rfl) ⟨fun c h1 h2 h3 => ?_, fun i hi => ?_, uu_e, fun k hk => ?_, fun i hi => ?_, fun j hj => ?_, ?_, fun k hk => ?_⟩
        · rw [uu_h h1, uu_h h3, ← hC, cpl_c h2, uu_h h1, ← hB, cpl_c h3, ← hA, cpl_c h2]
        · rw [uu_n hi, uu_c (by decide), ← hC, cpl_c (by decide), uu_n hi, ← hB, cpl_c (by decide), A66]
        · rw [uu_c (by decide), uu_c (by decide), ← hC, cpl_out (by omega), uu_c (by decide), ← hB, cpl_c (by decide), ← hA]
          have z := cpl_in (I := I) (a := 71) (o := 0) (j := 315) (i := k) (f := fun i => I 71 (i + 21)) (by omega)
          rw [Nat.zero_add] at z
          exact z
        · rw [uu_c (by decide), uu_c (by decide), ← hC, cpl_in hi, uu_c (by decide), ← hB, cpl_c (by decide), A68]
        · rw [uu_c (by decide), uu_n (by omega), ← hC, cpl_c (by decide), uu_c (by decide), ← hB]
          have z := cpl_in (I := A) (a := 72) (o := 0) (j := 15) (i := j) (f := fun i => A 72 (i + 1)) hj
          rw [Nat.zero_add] at z
          rw [z, A72]
        · rw [uu_c (by decide), uu_e]
        · rw [uu_c (by decide), uu_c (by decide), ← hC, cpl_out (by omega), uu_c (by decide), ← hB, cpl_c (by decide), ← hA, cpl_out (by omega)]
  · rw [if_neg (by rw [e]; exact fun q => h16 ((nb_inj (b := 16) (by omega) (by decide)).mp q)), e]
    refine q256 (by omega) ?_
    generalize hC : cpl I 71 (fun i => I 68 (5 + i)) (21 * u) 21 = C
    have C66 : C 66 = I 66 := by rw [← hC, cpl_c (by decide)]
    show ¬ (C 66 8 < 0 ∨ 16 ≤ Int32.toNatClampNeg (C 66 8)) ∧ K (am_u (am_u C 72 (Int32.toNatClampNeg (C 66 8)) x0) 66 8 (C 66 8 + 1))
    rw [C66, e]
    refine ⟨nb_gd (by omega) (by decide), ?_⟩
    rw [nI_clamp (by omega), ← nI_succ]
    refine hK _ u 0 (by omega) rfl (by decide) (Or.inl rfl) ⟨fun c h1 h2 h3 => ?_, fun i hi => ?_, uu_e, fun k hk => ?_, fun i hi => ?_, fun j hj => ?_, ?_, fun k hk => ?_⟩
    · rw [uu_h h1, uu_h h3, ← hC, cpl_c h2]
    · rw [uu_n hi, uu_c (by decide), C66]
    · rw [uu_c (by decide), uu_c (by decide), ← hC, cpl_out (by omega)]
      rfl
    · rw [uu_c (by decide), uu_c (by decide), ← hC, cpl_in hi]
    · rw [uu_c (by decide), uu_n (by omega), ← hC, cpl_c (by decide)]
      rfl
    · rw [uu_c (by decide), uu_e]
    · rw [uu_c (by decide), uu_c (by decide), ← hC, cpl_out (by omega)]
