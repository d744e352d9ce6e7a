/-! the start -/
set_option maxRecDepth 100000 in
theorem st0_c : hi_62 1 2 = 0 ∧ hi_62 68 0 = 0 ∧ hi_62 1 3 = 0 ∧ hi_62 1 10 = 0 ∧ hi_62 68 1 = 0 ∧ hi_62 1 9 = 0 ∧ hi_62 1 13 = 0 ∧ hi_62 68 2 = 0 ∧ hi_62 1 15 = 0 ∧ hi_62 68 3 = 0 ∧ hi_62 1 16 = -1 ∧ hi_62 68 4 = -1 := by decide +kernel
set_option maxRecDepth 100000 in
theorem st0_t : hi_62 12 0 = hi_62 68 5 ∧ hi_62 12 1 = hi_62 68 6 ∧ hi_62 12 2 = hi_62 68 7 ∧ hi_62 12 3 = hi_62 68 8 ∧ hi_62 1 18 = hi_62 68 9 ∧ hi_62 68 5 = nI (hi_62 68 5).toNatClampNeg ∧ hi_62 68 6 = nI (hi_62 68 6).toNatClampNeg ∧ hi_62 68 7 = nI (hi_62 68 7).toNatClampNeg ∧ hi_62 68 8 = nI (hi_62 68 8).toNatClampNeg ∧ hi_62 68 9 = nI (hi_62 68 9).toNatClampNeg := by decide +kernel
set_option maxRecDepth 100000 in
theorem st0_b : (hi_62 68 5).toNatClampNeg ≤ 9999 ∧ 1 ≤ (hi_62 68 6).toNatClampNeg ∧ (hi_62 68 6).toNatClampNeg ≤ 6 ∧ (hi_62 68 7).toNatClampNeg ≤ 10 ∧ (hi_62 68 8).toNatClampNeg ≤ 9 ∧ (hi_62 68 9).toNatClampNeg ≤ 99999 := by decide +kernel
set_option maxRecDepth 100000 in
theorem st0_m : hi_62 14 1 = 0 ∧ hi_62 66 13 = 0 ∧ hi_62 29 0 = 0 ∧ hi_62 66 8 = 0 ∧ hi_62 63 0 = 0 ∧ hi_62 66 61 = -1 ∧ hi_62 0 12 = hi_62 66 1 ∧ hi_62 65 0 = hi_62 67 1 ∧ hi_62 65 1 = hi_62 67 2 ∧ hi_62 65 2 = hi_62 67 3 := by decide +kernel
set_option maxRecDepth 100000 in
theorem st0_n : hi_62 65 3 = hi_62 67 5 ∧ hi_62 65 4 = hi_62 67 6 ∧ hi_62 0 13 = hi_62 66 11 ∧ hi_62 14 2 = hi_62 66 18 ∧ hi_62 35 1 = hi_62 66 56 ∧ hi_62 66 20 = 0 ∧ hi_62 92 0 = 0 ∧ hi_62 70 0 = 0 ∧ hi_62 70 1 = 0 ∧ hi_62 0 10 = 0 := by decide +kernel
set_option maxRecDepth 100000 in
theorem st0_r : hr_62 13 0 = none ∧ hr_62 13 1 = none ∧ hr_62 0 9 = none ∧ ∀ j, j < 6 → hr_62 11 j = none := by decide +kernel
theorem st0 : Inv DR 99 ht_62 hr_62 hi_62 hl_62 := by
  obtain ⟨c1, c2, c3, c4, c5, c6, c7, c8, c9, c10, c11, c12⟩ := st0_c
  obtain ⟨t1, t2, t3, t4, t5, t6, t7, t8, t9, t10⟩ := st0_t
  obtain ⟨b1, b2, b3, b4, b5, b6⟩ := st0_b
  obtain ⟨m1, m2, m3, m4, m5, m6, m7, m8, m9, m10⟩ := st0_m
  obtain ⟨n1, n2, n3, n4, n5, n6, n7, n8, n9, n10⟩ := st0_n
  obtain ⟨r1, r2, r3, r4⟩ := st0_r
  refine ⟨⟨⟨0, 0, by decide, by decide, c1, c2, c3, fun d hd => absurd hd (by omega)⟩, ⟨0, 0, by decide, by decide, c4, c5, c6, fun p hp => absurd hp (by omega)⟩, ⟨0, 0, by decide, by decide, c7, c8, c5, fun k hk => absurd hk (by omega)⟩, ⟨0, by decide, c9, c10, c11.trans c12.symm, Or.inl c12⟩, ⟨_, _, _, _, _, b1, b2, b3, b4, b5, b6, t1.trans t6, t2.trans t7, t3.trans t8, t4.trans t9, t5.trans t10, t6, t7, t8, t9, t10⟩, ⟨0, by decide, m1, m2, fun k hk => absurd hk (by omega)⟩, ⟨0, 0, by decide, by decide, c5, m3, m4, fun j hj => absurd hj (by omega)⟩, Or.inl ⟨m5, m6⟩, ⟨m7, m8, m9, m10, n1, n2, n3⟩, n4, n5, n6, n7, rfl, rfl, rfl⟩, ?_⟩
  refine ⟨Nat.le_refl _, fun j t hj ht => ?_, fun l hl hx k hk => ?_, Or.inl ⟨r1, n8⟩, Or.inl ⟨r2, n9⟩, fun p p' hp => ?_, fun k p q hk hp hq => ?_, fun _ => n10, fun q hq => ?_⟩
  · rw [r4 j hj] at ht; exact absurd ht (by simp)
  · rw [c9] at hx
    have : 0 = l := (nb_inj (a := 0) (by decide) (by omega)).mp hx
    omega
  · rw [r1] at hp; exact absurd hp (by simp)
  · rw [r3] at hq; exact absurd hq (by simp)
  · rw [r3] at hq; exact absurd hq (by simp)
