/-! a new prison -/
theorem z_o {α : Type} {f : Nat → Nat → α} {a b j : Nat} {v : α} (h : b ≠ a) : am_z f a v b j = f b j := by
  unfold am_z
  rw [if_neg h]
theorem z_e2 {α : Type} {f : Nat → Nat → α} {a b j : Nat} {v : α} (h : b = a) : am_z f a v b j = v := by
  unfold am_z
  rw [if_pos h]
theorem tn_o {T : Nat → Nat × Nat} {N k l b : Nat} (h : b ≠ N) : am_tn T N k l b = T b := if_neg h
theorem tn_e {T : Nat → Nat × Nat} {N k l b : Nat} (h : b = N) : am_tn T N k l b = (k, l) := if_pos h
theorem z_e {α : Type} {f : Nat → Nat → α} {a j : Nat} {v : α} : am_z f a v a j = v := by
  unfold am_z
  rw [if_pos rfl]
def NEW (a : Nat) (T T2 : Nat → Nat × Nat) (r r2 : Nat → Nat → Option Nat) : Prop := (∀ c, c ≤ a → T2 c = T c) ∧ (∀ c j, c < a → r2 c j = r c j) ∧ (∀ j, r2 (a + 10) j = none) ∧ r2 a 0 = some (a + 1) ∧ r2 a 1 = some (a + 2) ∧ r2 a 4 = some (a + 3) ∧ r2 a 5 = some (a + 4) ∧ r2 a 6 = some (a + 5) ∧ r2 a 7 = some (a + 6) ∧ r2 a 8 = some (a + 7) ∧ r2 a 11 = some (a + 8) ∧ r2 a 12 = some (a + 9) ∧ r2 a 14 = some (a + 10) ∧ r2 a 17 = some (a + 11) ∧ T2 (a + 1) = (20, 12) ∧ T2 (a + 2) = (20, 12) ∧ T2 (a + 3) = (20, 8) ∧ T2 (a + 4) = (20, 8) ∧ T2 (a + 5) = (20, 8) ∧ T2 (a + 6) = (20, 8) ∧ T2 (a + 7) = (20, 8) ∧ T2 (a + 8) = (20, 8) ∧ T2 (a + 9) = (20, 8) ∧ T2 (a + 10) = (24, 6) ∧ T2 (a + 11) = (20, 4)
theorem NEW_P {a : Nat} {T T2 : Nat → Nat × Nat} {r r2 r' : Nat → Nat → Option Nat} (ha : 99 ≤ a) (ht : T a = (7, 0)) (h : NEW a T T2 r r2) (hr : ∀ c j, ¬ (c = a + 10 ∧ j < 6) → r' c j = r2 c j) : PSN T2 r' a := by
  obtain ⟨h1, h2, h3, f0, f1, f4, f5, f6, f7, f8, f11, f12, f14, f17, t1, t2, t3, t4, t5, t6, t7, t8, t9, t10, t11⟩ := h
  unfold PSN
  rw [am_ts_hi ha, h1 a (Nat.le_refl a), ht, am_rs_hi ha, hr a 0 (by omega), f0, am_rs_hi ha, hr a 1 (by omega), f1, am_rs_hi ha, hr a 4 (by omega), f4, am_rs_hi ha, hr a 5 (by omega), f5, am_rs_hi ha, hr a 6 (by omega), f6, am_rs_hi ha, hr a 7 (by omega), f7, am_rs_hi ha, hr a 8 (by omega), f8, am_rs_hi ha, hr a 11 (by omega), f11, am_rs_hi ha, hr a 12 (by omega), f12, am_rs_hi ha, hr a 14 (by omega), f14, am_rs_hi ha, hr a 17 (by omega), f17, am_ts_hi (by omega), t1, am_ts_hi (by omega), t2, am_ts_hi (by omega), t3, am_ts_hi (by omega), t4, am_ts_hi (by omega), t5, am_ts_hi (by omega), t6, am_ts_hi (by omega), t7, am_ts_hi (by omega), t8, am_ts_hi (by omega), t9, am_ts_hi (by omega), t10, am_ts_hi (by omega), t11]
  exact ⟨rfl, rfl, rfl, rfl, rfl, rfl, rfl, rfl, rfl, rfl, rfl, rfl, rfl, rfl, rfl, rfl, rfl, rfl, rfl, rfl, rfl, rfl, rfl⟩
theorem q1n {a : Nat} {T : Nat → Nat × Nat} {r : Nat → Nat → Option Nat} {I : am_I} {L : am_J} {K : Nat → (Nat → Nat × Nat) → (Nat → Nat → Option Nat) → am_I → am_J → Prop} (ha : 99 ≤ a) (ht : T a = (7, 0)) (hK : ∀ T2 r2 I2 L2, NEW a T T2 r r2 → (∀ c, c < a → I2 c = I c) → (∀ c, c < a → L2 c = L c) → K (a + 12) T2 r2 I2 L2) : w_1 a (a + 1) T r I L K := by
  unfold w_1
  refine ⟨by omega, am_fr_hi ha, ?_, by omega, am_fr_hi ha, ?_, by omega, am_fr_hi ha, ?_, by omega, am_fr_hi ha, ?_, by omega, am_fr_hi ha, ?_, by omega, am_fr_hi ha, ?_, by omega, am_fr_hi ha, ?_, by omega, am_fr_hi ha, ?_, by omega, am_fr_hi ha, ?_, by omega, am_fr_hi ha, ?_, ?_, by omega, ?_, ?_, ?_, ?_, ?_, ?_, ?_, ?_, am_fr_hi ha, ?_, ?_⟩
  · rw [am_ts_hi (by omega), tn_o (by omega), ht]
  · rw [am_ts_hi (by omega), tn_o (by omega), tn_o (by omega), ht]
  · rw [am_ts_hi (by omega), tn_o (by omega), tn_o (by omega), tn_o (by omega), ht]
  · rw [am_ts_hi (by omega), tn_o (by omega), tn_o (by omega), tn_o (by omega), tn_o (by omega), ht]
  · rw [am_ts_hi (by omega), tn_o (by omega), tn_o (by omega), tn_o (by omega), tn_o (by omega), tn_o (by omega), ht]
  · rw [am_ts_hi (by omega), tn_o (by omega), tn_o (by omega), tn_o (by omega), tn_o (by omega), tn_o (by omega), tn_o (by omega), ht]
  · rw [am_ts_hi (by omega), tn_o (by omega), tn_o (by omega), tn_o (by omega), tn_o (by omega), tn_o (by omega), tn_o (by omega), tn_o (by omega), ht]
  · rw [am_ts_hi (by omega), tn_o (by omega), tn_o (by omega), tn_o (by omega), tn_o (by omega), tn_o (by omega), tn_o (by omega), tn_o (by omega), tn_o (by omega), ht]
  · rw [am_ts_hi (by omega), tn_o (by omega), tn_o (by omega), tn_o (by omega), tn_o (by omega), tn_o (by omega), tn_o (by omega), tn_o (by omega), tn_o (by omega), tn_o (by omega), ht]
  · rw [am_ts_hi (by omega), tn_o (by omega), tn_o (by omega), tn_o (by omega), tn_o (by omega), tn_o (by omega), tn_o (by omega), tn_o (by omega), tn_o (by omega), tn_o (by omega), tn_o (by omega), ht]
  · rw [am_ts_hi (by omega), tn_o (by omega), tn_o (by omega), tn_o (by omega), tn_o (by omega), tn_o (by omega), tn_o (by omega), tn_o (by omega), tn_o (by omega), tn_o (by omega), tn_o (by omega), ht]
  · rw [am_ts_hi (by omega), tn_e rfl]
  · rw [am_ts_hi (by omega), tn_e rfl]; decide
  · rw [am_ts_hi (by omega), tn_e rfl]
  · rw [am_ts_hi (by omega), tn_e rfl]; decide
  · rw [am_ts_hi (by omega), tn_e rfl]
  · rw [am_ts_hi (by omega), tn_e rfl]; decide
  · rw [am_ts_hi (by omega), tn_e rfl]
  · rw [am_ts_hi (by omega), tn_e rfl]; decide
  · rw [am_ts_hi (by omega), tn_o (by omega), tn_o (by omega), tn_o (by omega), tn_o (by omega), tn_o (by omega), tn_o (by omega), tn_o (by omega), tn_o (by omega), tn_o (by omega), tn_o (by omega), tn_o (by omega), ht]
  · refine hK _ _ _ _ ⟨fun c hc => ?_, fun c j hc => ?_, fun j => ?_, ?_, ?_, ?_, ?_, ?_, ?_, ?_, ?_, ?_, ?_, ?_, ?_, ?_, ?_, ?_, ?_, ?_, ?_, ?_, ?_, ?_, ?_⟩ (fun c hc => ?_) (fun c hc => ?_)
    · rw [tn_o (by omega), tn_o (by omega), tn_o (by omega), tn_o (by omega), tn_o (by omega), tn_o (by omega), tn_o (by omega), tn_o (by omega), tn_o (by omega), tn_o (by omega), tn_o (by omega)]
    · rw [uu_c (by omega), z_o (by omega), uu_c (by omega), z_o (by omega), uu_c (by omega), z_o (by omega), uu_c (by omega), z_o (by omega), uu_c (by omega), z_o (by omega), uu_c (by omega), z_o (by omega), uu_c (by omega), z_o (by omega), uu_c (by omega), z_o (by omega), uu_c (by omega), z_o (by omega), uu_c (by omega), z_o (by omega), uu_c (by omega), z_o (by omega)]
    · rw [uu_c (by omega), z_o (by omega), uu_c (by omega), z_e2 (by omega)]
    · rw [uu_n (by decide), z_o (by omega), uu_n (by decide), z_o (by omega), uu_n (by decide), z_o (by omega), uu_n (by decide), z_o (by omega), uu_n (by decide), z_o (by omega), uu_n (by decide), z_o (by omega), uu_n (by decide), z_o (by omega), uu_n (by decide), z_o (by omega), uu_n (by decide), z_o (by omega), uu_n (by decide), z_o (by omega), uu_e]
    · rw [uu_n (by decide), z_o (by omega), uu_n (by decide), z_o (by omega), uu_n (by decide), z_o (by omega), uu_n (by decide), z_o (by omega), uu_n (by decide), z_o (by omega), uu_n (by decide), z_o (by omega), uu_n (by decide), z_o (by omega), uu_n (by decide), z_o (by omega), uu_n (by decide), z_o (by omega), uu_e]
    · rw [uu_n (by decide), z_o (by omega), uu_n (by decide), z_o (by omega), uu_n (by decide), z_o (by omega), uu_n (by decide), z_o (by omega), uu_n (by decide), z_o (by omega), uu_n (by decide), z_o (by omega), uu_n (by decide), z_o (by omega), uu_n (by decide), z_o (by omega), uu_e]
    · rw [uu_n (by decide), z_o (by omega), uu_n (by decide), z_o (by omega), uu_n (by decide), z_o (by omega), uu_n (by decide), z_o (by omega), uu_n (by decide), z_o (by omega), uu_n (by decide), z_o (by omega), uu_n (by decide), z_o (by omega), uu_e]
    · rw [uu_n (by decide), z_o (by omega), uu_n (by decide), z_o (by omega), uu_n (by decide), z_o (by omega), uu_n (by decide), z_o (by omega), uu_n (by decide), z_o (by omega), uu_n (by decide), z_o (by omega), uu_e]
    · rw [uu_n (by decide), z_o (by omega), uu_n (by decide), z_o (by omega), uu_n (by decide), z_o (by omega), uu_n (by decide), z_o (by omega), uu_n (by decide), z_o (by omega), uu_e]
    · rw [uu_n (by decide), z_o (by omega), uu_n (by decide), z_o (by omega), uu_n (by decide), z_o (by omega), uu_n (by decide), z_o (by omega), uu_e]
    · rw [uu_n (by decide), z_o (by omega), uu_n (by decide), z_o (by omega), uu_n (by decide), z_o (by omega), uu_e]
    · rw [uu_n (by decide), z_o (by omega), uu_n (by decide), z_o (by omega), uu_e]
    · rw [uu_n (by decide), z_o (by omega), uu_e]
    · rw [uu_e]
    · rw [tn_o (by omega), tn_o (by omega), tn_o (by omega), tn_o (by omega), tn_o (by omega), tn_o (by omega), tn_o (by omega), tn_o (by omega), tn_o (by omega), tn_o (by omega), tn_e (by omega)]
    · rw [tn_o (by omega), tn_o (by omega), tn_o (by omega), tn_o (by omega), tn_o (by omega), tn_o (by omega), tn_o (by omega), tn_o (by omega), tn_o (by omega), tn_e (by omega)]
    · rw [tn_o (by omega), tn_o (by omega), tn_o (by omega), tn_o (by omega), tn_o (by omega), tn_o (by omega), tn_o (by omega), tn_o (by omega), tn_e (by omega)]
    · rw [tn_o (by omega), tn_o (by omega), tn_o (by omega), tn_o (by omega), tn_o (by omega), tn_o (by omega), tn_o (by omega), tn_e (by omega)]
    · rw [tn_o (by omega), tn_o (by omega), tn_o (by omega), tn_o (by omega), tn_o (by omega), tn_o (by omega), tn_e (by omega)]
    · rw [tn_o (by omega), tn_o (by omega), tn_o (by omega), tn_o (by omega), tn_o (by omega), tn_e (by omega)]
    · rw [tn_o (by omega), tn_o (by omega), tn_o (by omega), tn_o (by omega), tn_e (by omega)]
    · rw [tn_o (by omega), tn_o (by omega), tn_o (by omega), tn_e (by omega)]
    · rw [tn_o (by omega), tn_o (by omega), tn_e (by omega)]
    · rw [tn_o (by omega), tn_e (by omega)]
    · rw [tn_e (by omega)]
    · funext j
      rw [uu_c (by omega), uu_c (by omega), uu_c (by omega), uu_c (by omega), z_o (by omega), uu_c (by omega), z_o (by omega), z_o (by omega), z_o (by omega), z_o (by omega), z_o (by omega), z_o (by omega), z_o (by omega), z_o (by omega), z_o (by omega), z_o (by omega)]
    · funext j
      rw [z_o (by omega), z_o (by omega), z_o (by omega), z_o (by omega), z_o (by omega), z_o (by omega), z_o (by omega), z_o (by omega), z_o (by omega), z_o (by omega), z_o (by omega)]
