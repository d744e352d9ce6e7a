/-! what the class keeps of what was done -/
theorem ci_in {I : am_I} {a j : Nat} (h : j < 15) : am_ci I a a 1 0 15 a j = I a (j + 1) := by
  unfold am_ci va_cpy
  rw [if_pos rfl, if_pos ⟨by omega, by omega⟩, show 1 + (j - 0) = j + 1 by omega]
def kep (I J : am_I) (t s : Nat) (x0 x1 x2 x3 x4 : Int32) : Prop := (∀ c, (c < 29 ∨ 34 < c) → J c = I c) ∧ J 29 0 = nI (t + 1) ∧ (∀ j, j < t → J 30 j = I 30 (j + s) ∧ J 31 j = I 31 (j + s) ∧ J 32 j = I 32 (j + s) ∧ J 33 j = I 33 (j + s) ∧ J 34 j = I 34 (j + s)) ∧ J 30 t = x0 ∧ J 31 t = x1 ∧ J 32 t = x2 ∧ J 33 t = x3 ∧ J 34 t = x4
theorem q97 {T : Nat → Nat × Nat} {r : Nat → Nat → Option Nat} {I : am_I} {u : Nat} {x0 x1 x2 x3 x4 : Int32} {K : am_I → Prop} (hu : u ≤ 16) (e : I 29 0 = nI u) (hK : ∀ J t s, t ≤ 15 → t + s = u → s ≤ 1 → (s = 0 ∨ u = 16) → kep I J t s x0 x1 x2 x3 x4 → K J) : w_97 x0 x1 x2 x3 x4 T r I K := by
  unfold w_97
  by_cases h16 : u = 16
  · rw [if_neg (by rw [e, h16]; decide)]
    unfold w_98
    refine ⟨⟨rfl, rfl, by decide, by decide, by decide, (show 1 + 15 ≤ 16 by decide), (show 0 + 15 ≤ 16 by decide)⟩, _, rfl, ?_⟩
    refine ⟨⟨rfl, rfl, by decide, by decide, (show ¬ (15 : Int32) < 0 by decide), (show 1 + 15 ≤ 16 by decide), (show 0 + 15 ≤ 16 by decide)⟩, _, rfl, ?_⟩
    refine ⟨⟨rfl, rfl, by decide, by decide, (show ¬ (15 : Int32) < 0 by decide), (show 1 + 15 ≤ 16 by decide), (show 0 + 15 ≤ 16 by decide)⟩, _, rfl, ?_⟩
    refine ⟨⟨rfl, rfl, by decide, by decide, (show ¬ (15 : Int32) < 0 by decide), (show 1 + 15 ≤ 16 by decide), (show 0 + 15 ≤ 16 by decide)⟩, _, rfl, ?_⟩
    refine ⟨⟨rfl, rfl, by decide, by decide, (show ¬ (15 : Int32) < 0 by decide), (show 1 + 15 ≤ 16 by decide), (show 0 + 15 ≤ 16 by decide)⟩, _, rfl, ?_⟩
    have g : ¬ ((15 : Int32) < 0 ∨ 16 ≤ Int32.toNatClampNeg 15) := by decide
    refine ⟨g, g, g, g, g, ?_⟩
    refine hK _ 15 1 (by decide) (by omega) (by decide) (Or.inr h16) ⟨fun c hc => ?_, rfl, fun j hj => ⟨?_, ?_, ?_, ?_, ?_⟩, ?_, ?_, ?_, ?_, ?_⟩
    · funext k
      have n29 : c ≠ 29 := by omega
      have n30 : c ≠ 30 := by omega
      have n31 : c ≠ 31 := by omega
      have n32 : c ≠ 32 := by omega
      have n33 : c ≠ 33 := by omega
      have n34 : c ≠ 34 := by omega
      rw [uu_c n29, uu_c n34, uu_c n33, uu_c n32, uu_c n31, uu_c n30]
      unfold am_ci
      rw [if_neg n34, if_neg n33, if_neg n32, if_neg n31, if_neg n30, uu_c n29]
    · exact (show am_u (am_ci I 30 30 1 0 15) 30 15 x0 30 j = I 30 (j + 1) from (uu_n (by omega)).trans (ci_in hj))
    · exact (show am_u (am_ci I 31 31 1 0 15) 31 15 x1 31 j = I 31 (j + 1) from (uu_n (by omega)).trans (ci_in hj))
    · exact (show am_u (am_ci I 32 32 1 0 15) 32 15 x2 32 j = I 32 (j + 1) from (uu_n (by omega)).trans (ci_in hj))
    · exact (show am_u (am_ci I 33 33 1 0 15) 33 15 x3 33 j = I 33 (j + 1) from (uu_n (by omega)).trans (ci_in hj))
    · exact (show am_u (am_ci I 34 34 1 0 15) 34 15 x4 34 j = I 34 (j + 1) from (uu_n (by omega)).trans (ci_in hj))
    · exact uu_e (f := I) (a := 30) (i := 15) (v := x0)
    · exact uu_e (f := I) (a := 31) (i := 15) (v := x1)
    · exact uu_e (f := I) (a := 32) (i := 15) (v := x2)
    · exact uu_e (f := I) (a := 33) (i := 15) (v := x3)
    · exact uu_e (f := I) (a := 34) (i := 15) (v := x4)
  · have hu' : u < 16 := by omega
    rw [if_pos (by rw [e]; exact (nb_lt (b := 16) (by omega) (by decide)).mpr hu')]
    have g : ¬ (I 29 0 < 0 ∨ 16 ≤ Int32.toNatClampNeg (I 29 0)) := nb_gdx e hu' (by decide)
    refine ⟨g, g, g, g, g, ?_⟩
    rw [nb_cl e (by omega), e, ← nI_succ]
    refine hK _ u 0 (by omega) rfl (by decide) (Or.inl rfl) ⟨fun c hc => ?_, rfl, fun j hj => ⟨?_, ?_, ?_, ?_, ?_⟩, ?_, ?_, ?_, ?_, ?_⟩
    · rw [uu_h (by omega), uu_h (by omega), uu_h (by omega), uu_h (by omega), uu_h (by omega), uu_h (by omega)]
    · exact (show am_u I 30 u x0 30 j = I 30 j from uu_n (by omega))
    · exact (show am_u I 31 u x1 31 j = I 31 j from uu_n (by omega))
    · exact (show am_u I 32 u x2 32 j = I 32 j from uu_n (by omega))
    · exact (show am_u I 33 u x3 33 j = I 33 j from uu_n (by omega))
    · exact (show am_u I 34 u x4 34 j = I 34 j from uu_n (by omega))
    · exact uu_e (f := I) (a := 30) (i := u) (v := x0)
    · exact uu_e (f := I) (a := 31) (i := u) (v := x1)
    · exact uu_e (f := I) (a := 32) (i := u) (v := x2)
    · exact uu_e (f := I) (a := 33) (i := u) (v := x3)
    · exact uu_e (f := I) (a := 34) (i := u) (v := x4)
/-- one more that can be undone -/
theorem UNr_push {I : am_I} {u1 u2 : Int32} {d30 d31 d32 d33 d34 d71 d72 R' : Nat → Int32} {u m t s : Nat} {x0 x1 x2 x3 x4 : Int32} (hm : m ≤ 8) (ht : t ≤ 15) (hs : t + s = u) (hs1 : s ≤ 1)
    (old : ∀ j, j < u → I 72 j = I 30 j ∧ usv m (I 30 j) (I 31 j) (I 32 j) (I 33 j) (I 34 j) ∧ ∀ i, i < 21 → I 71 (21 * j + i) = ust (I 30 j) (I 31 j) (I 32 j) (I 33 j) (I 34 j) (fun i => if j + 1 = u then I 68 (5 + i) else I 71 (21 * (j + 1) + i)) i)
    (e1 : u1 = nI (t + 1)) (e2 : u2 = nI (t + 1)) (k1 : ∀ j, j < t → d30 j = I 30 (j + s) ∧ d31 j = I 31 (j + s) ∧ d32 j = I 32 (j + s) ∧ d33 j = I 33 (j + s) ∧ d34 j = I 34 (j + s)) (k2 : d30 t = x0 ∧ d31 t = x1 ∧ d32 t = x2 ∧ d33 t = x3 ∧ d34 t = x4)
    (r1 : ∀ k, k < 21 * t → d71 k = I 71 (k + 21 * s)) (r2 : ∀ i, i < 21 → d71 (21 * t + i) = I 68 (5 + i)) (r3 : ∀ j, j < t → d72 j = I 72 (j + s)) (r4 : d72 t = x0)
    (hv : usv m x0 x1 x2 x3 x4) (hR : R' 1 = nI m) (hst : ∀ i, i < 21 → I 68 (5 + i) = ust x0 x1 x2 x3 x4 (fun i => R' (5 + i)) i) : UNr u1 u2 d30 d31 d32 d33 d34 d71 d72 R' := by
  refine ⟨t + 1, m, by omega, hm, hR, e1, e2, fun j hj => ?_⟩
  by_cases e : j = t
  · subst e
    obtain ⟨a0, a1, a2, a3, a4⟩ := k2
    rw [a0, a1, a2, a3, a4]
    refine ⟨r4, hv, fun i hi => ?_⟩
    rw [r2 i hi, hst i hi]
    refine (ust_cg (fun i hi => ?_) hi).symm
    rw [if_pos rfl]
  · have hjt : j < t := by omega
    obtain ⟨a0, a1, a2, a3, a4⟩ := k1 j hjt
    rw [a0, a1, a2, a3, a4]
    obtain ⟨b1, b2, b3⟩ := old (j + s) (by omega)
    refine ⟨(r3 j hjt).trans b1, b2, fun i hi => ?_⟩
    rw [r1 _ (by omega), show 21 * j + i + 21 * s = 21 * (j + s) + i by omega, b3 i hi]
    refine ust_cg (fun i hi => ?_) hi
    rw [if_neg (by omega : ¬ j + 1 = t + 1)]
    by_cases e2 : j + 1 = t
    · rw [if_pos (by omega), show 21 * (j + 1) + i = 21 * t + i by rw [e2], r2 i hi]
    · rw [if_neg (by omega), r1 _ (by omega), show 21 * (j + 1) + i + 21 * s = 21 * (j + s + 1) + i by omega]
