/-! the heap behind the constructors, in the form of the contracts -/
def am_lst {α : Type} : Lean.RArray α → α
  | .leaf a => a
  | .branch _ _ r => am_lst r
def am_mx {α : Type} : Lean.RArray α → Nat
  | .leaf _ => 0
  | .branch p l r => max p (max (am_mx l) (am_mx r))
theorem am_get_hi {α : Type} {k : Nat} : ∀ t : Lean.RArray α, am_mx t ≤ k → t.get k = am_lst t
  | .leaf a, _ => rfl
  | .branch p l r, h => by
    have h1 : max p (max (am_mx l) (am_mx r)) ≤ k := h
    have hp : p ≤ k := by omega
    rw [Lean.RArray.get_eq_getImpl]
    show (if k < p then l.getImpl k else r.getImpl k) = am_lst r
    rw [if_neg (by omega), ← Lean.RArray.get_eq_getImpl]
    exact am_get_hi r (by omega)
theorem am_ts_start : am_ts ht_62 = ht_62 := by
  funext a
  by_cases h : 99 ≤ a
  · exact am_ts_hi h
  · have hall : ∀ a, a < 99 → am_ts ht_62 a = ht_62 a := by decide +kernel
    exact hall a (by omega)
theorem am_rs_start : am_rs hr_62 = hr_62 := by
  funext a k
  by_cases h : 99 ≤ a
  · exact am_rs_hi h
  · by_cases hk : 64 ≤ k
    · have hall : ∀ a, a < 99 → am_mx (am_rr.get a) ≤ 64 ∧ am_lst (am_rr.get a) = none := by decide +kernel
      obtain ⟨h1, h2⟩ := hall a (by omega)
      have e := am_get_hi (k := k) (am_rr.get a) (by omega)
      rw [h2] at e
      have e9 : Nat.ble 99 a = false := by
        cases hb : Nat.ble 99 a with
        | false => rfl
        | true => exact absurd (Nat.ble_eq.mp hb) h
      unfold am_rs
      rw [e9, e]
    · have hall : ∀ a, a < 99 → ∀ k, k < 64 → am_rs hr_62 a k = hr_62 a k := by decide +kernel
      exact hall a (by omega) k (by omega)
/-- THE CLAIM'S LAW, out of what holds of every kind of call -/
theorem law_of {P : Nat → (Nat → Nat × Nat) → (Nat → Nat → Option Nat) → am_I → am_J → Prop} (hP : op_all P) (h0 : P 99 ht_62 hr_62 hi_62 hl_62) : ∀ S : am_S, S.1 ≤ 3072 → am_E S 304 1000 0 0 0 [.retAddr 3, am_jk, am_jk, am_jk] [] am_h0 (fun r _ => r = some (.int 1)) := by
  intro S hS
  have g := law_loop (S := S) (d := 940) hP hS (Q := fun r _ => r = some (.int 1)) (fun _ => rfl) 513 0 99 ht_62 hr_62 hi_62 hl_62 rfl (by omega) h0
  rw [am_ts_start, am_rs_start] at g
  exact ct_0 (d := 996) g
