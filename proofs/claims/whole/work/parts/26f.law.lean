/-! law -/
def rdo (c : Nat) : Prop := c ≠ 0 ∧ c ≠ 14 ∧ ¬ (16 ≤ c ∧ c ≤ 22) ∧ c ≠ 65 ∧ c ≠ 66 ∧ c ≠ 67 ∧ ¬ (76 ≤ c ∧ c ≤ 80) ∧ c ≠ 97
theorem inv_rd {N : Nat} {T : Nat → Nat × Nat} {r : Nat → Nat → Option Nat} {I F : am_I} {L H : am_J} {v : Int32} {j j' : Nat} (h : Inv DR N T r I L) (hj : (j = 3 ∧ j' = 5) ∨ (j = 4 ∧ j' = 6)) (mr : ∀ c, rdo c → F c = I c) (m0 : ∀ i, i ≠ 12 → F 0 i = I 0 i) (m012 : F 0 12 = v) (m65 : ∀ i, i ≠ j → F 65 i = I 65 i) (m65j : F 65 j = I 65 j + 1) (m67 : ∀ i, i ≠ j' → F 67 i = I 67 i) (m67j : F 67 j' = I 67 j' + 1) (m661 : F 66 1 = v) (m66 : ∀ i, (i = 8 ∨ i = 11 ∨ i = 56 ∨ i = 60 ∨ i = 61) → F 66 i = I 66 i) (m13 : F 66 13 = 0) (m20 : F 66 20 = 0) (m14 : F 14 1 = 0) (m18 : F 14 2 = F 66 18) (hL : LWr H) : Inv DR N T r F H := by
  obtain ⟨⟨h1, h2, h3, h4, h5, h6, h7, h8, h9, f1, f2, f3, f4, f5⟩, hdd⟩ := h
  have q : ∀ c, (1 ≤ c ∧ c ≤ 13) ∨ (29 ≤ c ∧ c ≤ 35) ∨ c = 63 ∨ c = 64 ∨ (68 ≤ c ∧ c ≤ 72) ∨ c = 92 ∨ 98 ≤ c → F c = I c := fun c hc => mr c (by unfold rdo; omega)
  obtain ⟨a1, a2, a3, a4, a5, a6, a7⟩ := h9
  have fd : DR N T r F L := DR_fr _ _ _ _ _ _ ⟨fun a ha => q a (by omega), by rw [q 1 (by omega)], fun i _ => by rw [q 68 (by omega)], q 69 (by omega), q 70 (by omega), Or.inr ⟨m0 10 (by decide), by rw [q 1 (by omega)], by rw [q 1 (by omega)], q 4 (by omega), q 5 (by omega), q 7 (by omega), q 12 (by omega)⟩⟩ hdd
  refine ⟨⟨?_, ?_, ?_, ?_, ?_, ⟨0, by decide, m14, m13, fun k hk => absurd hk (Nat.not_lt_zero _)⟩, ?_, ?_, ⟨m012.trans m661.symm, ?_, ?_, ?_, ?_, ?_, ?_⟩, m18, ?_, m20, ?_, hL⟩, fd⟩
  · rw [q 1 (by omega), q 2 (by omega), q 3 (by omega), q 68 (by omega)]; exact h1
  · rw [q 1 (by omega), q 4 (by omega), q 5 (by omega), q 6 (by omega), q 7 (by omega), q 8 (by omega), q 68 (by omega)]; exact h2
  · rw [q 1 (by omega), q 9 (by omega), q 10 (by omega), q 68 (by omega)]; exact h3
  · rw [q 1 (by omega), q 68 (by omega)]; exact h4
  · rw [q 1 (by omega), q 12 (by omega), q 68 (by omega)]; exact h5
  · rw [q 29 (by omega), q 30 (by omega), q 31 (by omega), q 32 (by omega), q 33 (by omega), q 34 (by omega), q 71 (by omega), q 72 (by omega), q 68 (by omega), m66 8 (by omega)]; exact h7
  · rw [q 63 (by omega), q 64 (by omega), q 98 (by omega), m66 60 (by omega), m66 61 (by omega)]; exact h8
  · rw [m65 0 (by omega), m67 1 (by omega)]; exact a2
  · rw [m65 1 (by omega), m67 2 (by omega)]; exact a3
  · rw [m65 2 (by omega), m67 3 (by omega)]; exact a4
  · rcases hj with ⟨rfl, rfl⟩ | ⟨rfl, rfl⟩
    · rw [m65j, m67j, a5]
    · rw [m65 3 (by omega), m67 5 (by omega)]; exact a5
  · rcases hj with ⟨rfl, rfl⟩ | ⟨rfl, rfl⟩
    · rw [m65 4 (by omega), m67 6 (by omega)]; exact a6
    · rw [m65j, m67j, a6]
  · rw [m0 13 (by decide), m66 11 (by omega)]; exact a7
  · rw [q 35 (by omega), m66 56 (by omega)]; exact f2
  · rw [q 92 (by omega)]; exact f4
theorem StR_law {I F : am_I} {L H : am_J} {k : Nat} (h : StR I L) (hk : k < 6) (e15 : I 1 15 = nI k) (mr : ∀ c, rdo c → c ≠ 1 → c ≠ 68 → c < 99 → F c = I c) (m0 : ∀ i, i ≠ 10 → i ≠ 12 → F 0 i = I 0 i) (m012 : F 0 12 = 0) (m1 : ∀ i, i ≠ 15 → F 1 i = I 1 i) (m15 : F 1 15 = nI (k + 1)) (m68 : ∀ i, i ≠ 3 → (i < 111 + 900 * k ∨ 1010 + 900 * k ≤ i) → F 68 i = I 68 i) (m683 : F 68 3 = nI (k + 1)) (m65 : F 65 = I 65) (m67 : F 67 = I 67) (m661 : F 66 1 = 0) (m66 : ∀ i, (i = 8 ∨ i = 11 ∨ i = 56 ∨ i = 60 ∨ i = 61) → F 66 i = I 66 i) (m13 : F 66 13 = 0) (m20 : F 66 20 = 0) (m14 : F 14 1 = 0) (m18 : F 14 2 = F 66 18) (hL : LWr H) : StR F H := by
  obtain ⟨h1, h2, h3, h4, h5, h6, h7, h8, h9, f1, f2, f3, f4, f5⟩ := h
  have q : ∀ c, (2 ≤ c ∧ c ≤ 13) ∨ (29 ≤ c ∧ c ≤ 35) ∨ c = 63 ∨ c = 64 ∨ (69 ≤ c ∧ c ≤ 72) ∨ c = 92 ∨ c = 98 → F c = I c := fun c hc => mr c (by unfold rdo; omega) (by omega) (by omega) (by omega)
  obtain ⟨a1, a2, a3, a4, a5, a6, a7⟩ := h9
  have R : ∀ i, i ≠ 3 → i < 111 → F 68 i = I 68 i := fun i i1 i2 => m68 i i1 (Or.inl (by omega))
  refine ⟨PRd_cg h1 (m1 2 (by decide)) (m1 3 (by decide)) (fun d _ => by rw [q 2 (by omega)]) (fun d _ => by rw [q 3 (by omega)]) (R 0 (by decide) (by decide)) (fun i g1 g2 => R i (by omega) (by omega)), ?_, ?_, ?_, ?_, ⟨0, by decide, m14, m13, fun k hk => absurd hk (Nat.not_lt_zero _)⟩, ?_, ?_, ⟨m012.trans m661.symm, ?_, ?_, ?_, ?_, ?_, ?_⟩, m18, ?_, m20, ?_, hL⟩
  · rw [q 4 (by omega), q 5 (by omega), q 6 (by omega), q 7 (by omega), q 8 (by omega)]
    exact PRm_cg h2 (m1 10 (by decide)) (m1 9 (by decide)) (R 1 (by decide) (by decide)) (fun i g1 g2 => R i (by omega) (by omega))
  · rw [q 9 (by omega), q 10 (by omega)]
    exact PRc_cg h3 (m1 13 (by decide)) (R 1 (by decide) (by decide)) (R 2 (by decide) (by decide)) (fun i g1 g2 => R i (by omega) (by omega))
  · obtain ⟨l, l6, b1', b2, b3, b4⟩ := h4
    have el : l = k := (nb_inj (by omega) (by omega)).mp (b1'.symm.trans e15)
    refine ⟨k + 1, by omega, m15, m683, ?_, ?_⟩
    · rw [m1 16 (by decide), R 4 (by decide) (by decide)]; exact b3
    · rw [R 4 (by decide) (by decide)]
      rcases b4 with z | ⟨f, z1, z2⟩
      · exact Or.inl z
      · exact Or.inr ⟨f, by omega, z2⟩
  · rw [q 12 (by omega)]
    exact PRt_cg h5 (m1 18 (by decide)) (fun i g1 g2 => R i (by omega) (by omega))
  · rw [q 29 (by omega), q 30 (by omega), q 31 (by omega), q 32 (by omega), q 33 (by omega), q 34 (by omega), q 71 (by omega), q 72 (by omega), m66 8 (by omega)]
    exact UNr_cg h7 (R 1 (by decide) (by decide)) (fun i g1 g2 => R i (by omega) (by omega))
  · rw [q 63 (by omega), q 64 (by omega), q 98 (by omega), m66 60 (by omega), m66 61 (by omega)]; exact h8
  · rw [m65, m67]; exact a2
  · rw [m65, m67]; exact a3
  · rw [m65, m67]; exact a4
  · rw [m65, m67]; exact a5
  · rw [m65, m67]; exact a6
  · rw [m0 13 (by decide) (by decide), m66 11 (by omega)]; exact a7
  · rw [q 35 (by omega), m66 56 (by omega)]; exact f2
  · rw [q 92 (by omega)]; exact f4
theorem tp_by {I : am_I} (h : TPr (I 14 1) (I 66 13) (I 15) (I 75)) : ∃ b z, BY I b z ∧ BYr I b z := by
  obtain ⟨z, z4, ez, em, eb⟩ := h
  have go : ∀ k, k < z → Int32.toNatClampNeg (I 15 k) < 256 ∧ I 15 k = nI (Int32.toNatClampNeg (I 15 k)) ∧ I 75 k = nI (Int32.toNatClampNeg (I 15 k)) := by
    intro k hk
    obtain ⟨b, b1', b2, b3⟩ := eb k hk
    have e : Int32.toNatClampNeg (I 15 k) = b := by rw [b2]; exact nI_clamp (by omega)
    rw [e]
    exact ⟨b1', b2, b3⟩
  exact ⟨fun k => Int32.toNatClampNeg (I 15 k), z, ⟨z4, ez, fun k hk => ⟨(go k hk).1, (go k hk).2.1⟩⟩, ⟨z4, em, fun k hk => ⟨(go k hk).1, (go k hk).2.2⟩⟩⟩
