/-! THE CELLS THAT STAND FROM THE START (0 the class, 66 the reference); written by program (wp.py) -/
abbrev am_I : Type := Nat → Nat → Int32
abbrev am_J : Type := Nat → Nat → Int64
set_option maxRecDepth 100000 in
noncomputable def am_tt : Lean.RArray (Nat × Nat) := .branch 49 (.branch 24 (.branch 12 (.branch 6 (.branch 3 (.branch 1 (.leaf (12, 0)) (.branch 2 (.leaf (7, 0)) (.leaf (20, 12)))) (.branch 4 (.leaf (20, 12)) (.branch 5 (.leaf (20, 8)) (.leaf (20, 8))))) (.branch 9 (.branch 7 (.leaf (20, 8)) (.branch 8 (.leaf (20, 8)) (.leaf (20, 8)))) (.branch 10 (.leaf (20, 8)) (.branch 11 (.leaf (20, 8)) (.leaf (24, 6)))))) (.branch 18 (.branch 15 (.branch 13 (.leaf (20, 4)) (.branch 14 (.leaf (23, 2)) (.leaf (8, 0)))) (.branch 16 (.leaf (20, 400)) (.branch 17 (.leaf (11, 0)) (.leaf (20, 400))))) (.branch 21 (.branch 19 (.leaf (20, 12)) (.branch 20 (.leaf (20, 12)) (.leaf (20, 60)))) (.branch 22 (.leaf (20, 401)) (.branch 23 (.leaf (20, 401)) (.leaf (4, 0))))))) (.branch 36 (.branch 30 (.branch 27 (.branch 25 (.leaf (5, 0)) (.branch 26 (.leaf (20, 14)) (.leaf (20, 32)))) (.branch 28 (.leaf (20, 8)) (.branch 29 (.leaf (20, 8)) (.leaf (3, 0))))) (.branch 33 (.branch 31 (.leaf (20, 16)) (.branch 32 (.leaf (20, 16)) (.leaf (20, 16)))) (.branch 34 (.leaf (20, 16)) (.branch 35 (.leaf (20, 16)) (.leaf (10, 0)))))) (.branch 42 (.branch 39 (.branch 37 (.leaf (7, 0)) (.branch 38 (.leaf (20, 12)) (.leaf (20, 12)))) (.branch 40 (.leaf (20, 8)) (.branch 41 (.leaf (20, 8)) (.leaf (20, 8))))) (.branch 45 (.branch 43 (.leaf (20, 8)) (.branch 44 (.leaf (20, 8)) (.leaf (20, 8)))) (.branch 47 (.branch 46 (.leaf (20, 8)) (.leaf (24, 6))) (.branch 48 (.leaf (20, 4)) (.leaf (3, 0)))))))) (.branch 74 (.branch 61 (.branch 55 (.branch 52 (.branch 50 (.leaf (20, 16)) (.branch 51 (.leaf (20, 16)) (.leaf (20, 16)))) (.branch 53 (.leaf (20, 16)) (.branch 54 (.leaf (20, 16)) (.leaf (20, 3))))) (.branch 58 (.branch 56 (.leaf (2, 0)) (.branch 57 (.leaf (20, 6)) (.leaf (20, 10)))) (.branch 59 (.leaf (20, 10)) (.branch 60 (.leaf (1, 0)) (.leaf (20, 256)))))) (.branch 67 (.branch 64 (.branch 62 (.leaf (20, 2304)) (.branch 63 (.leaf (20, 10)) (.leaf (6, 0)))) (.branch 65 (.leaf (20, 8)) (.branch 66 (.leaf (20, 5)) (.leaf (13, 0))))) (.branch 70 (.branch 68 (.leaf (20, 7)) (.branch 69 (.leaf (20, 5510)) (.leaf (20, 11020)))) (.branch 72 (.branch 71 (.leaf (22, 2)) (.leaf (20, 378))) (.branch 73 (.leaf (20, 16)) (.leaf (20, 336))))))) (.branch 86 (.branch 80 (.branch 77 (.branch 75 (.leaf (20, 16)) (.branch 76 (.leaf (20, 400)) (.leaf (20, 96)))) (.branch 78 (.leaf (20, 400)) (.branch 79 (.leaf (20, 400)) (.leaf (20, 400))))) (.branch 83 (.branch 81 (.leaf (20, 400)) (.branch 82 (.leaf (21, 10)) (.leaf (21, 7)))) (.branch 84 (.leaf (21, 4)) (.branch 85 (.leaf (21, 13)) (.leaf (21, 13)))))) (.branch 92 (.branch 89 (.branch 87 (.leaf (21, 400)) (.branch 88 (.leaf (20, 10)) (.leaf (20, 96)))) (.branch 90 (.leaf (20, 7)) (.branch 91 (.leaf (20, 6)) (.leaf (20, 8))))) (.branch 95 (.branch 93 (.leaf (22, 7)) (.branch 94 (.leaf (20, 6)) (.leaf (20, 6)))) (.branch 97 (.branch 96 (.leaf (20, 9)) (.leaf (22, 256))) (.branch 98 (.leaf (20, 120)) (.leaf (20, 8))))))))
noncomputable def am_ts (T : Nat → Nat × Nat) (a : Nat) : Nat × Nat := (Nat.ble 99 a).rec (am_tt.get a) (T a)
set_option maxRecDepth 100000 in
noncomputable def am_rr : Lean.RArray (Lean.RArray (Option Nat)) := .branch 49 (.branch 24 (.branch 12 (.branch 6 (.branch 3 (.branch 1 (.leaf (.branch 7 (.branch 3 (.branch 1 (.leaf (some 1)) (.branch 2 (.leaf (some 13)) (.leaf (some 14)))) (.branch 5 (.branch 4 (.leaf (some 23)) (.leaf (some 29))) (.branch 6 (.leaf (some 35)) (.leaf (some 55))))) (.branch 11 (.branch 9 (.branch 8 (.leaf (some 59)) (.leaf (some 63))) (.branch 10 (.leaf none) (.leaf none))) (.branch 13 (.branch 12 (.leaf (some 65)) (.leaf none)) (.branch 14 (.leaf none) (.leaf none)))))) (.branch 2 (.leaf (.branch 10 (.branch 5 (.branch 2 (.branch 1 (.leaf (some 2)) (.leaf (some 3))) (.branch 3 (.leaf none) (.branch 4 (.leaf none) (.leaf (some 4))))) (.branch 7 (.branch 6 (.leaf (some 5)) (.leaf (some 6))) (.branch 8 (.leaf (some 7)) (.branch 9 (.leaf (some 8)) (.leaf none))))) (.branch 15 (.branch 12 (.branch 11 (.leaf none) (.leaf (some 9))) (.branch 13 (.leaf (some 10)) (.branch 14 (.leaf none) (.leaf (some 11))))) (.branch 17 (.branch 16 (.leaf none) (.leaf none)) (.branch 18 (.leaf (some 12)) (.branch 19 (.leaf none) (.leaf none))))))) (.leaf (.leaf none)))) (.branch 4 (.leaf (.leaf none)) (.branch 5 (.leaf (.leaf none)) (.leaf (.leaf none))))) (.branch 9 (.branch 7 (.leaf (.leaf none)) (.branch 8 (.leaf (.leaf none)) (.leaf (.leaf none)))) (.branch 10 (.leaf (.leaf none)) (.branch 11 (.leaf (.leaf none)) (.leaf (.leaf none)))))) (.branch 18 (.branch 15 (.branch 13 (.leaf (.leaf none)) (.branch 14 (.leaf (.leaf none)) (.leaf (.branch 5 (.branch 2 (.branch 1 (.leaf (some 15)) (.leaf none)) (.branch 3 (.leaf none) (.branch 4 (.leaf (some 16)) (.leaf none)))) (.branch 8 (.branch 6 (.leaf (some 21)) (.branch 7 (.leaf (some 22)) (.leaf none))) (.branch 9 (.leaf none) (.branch 10 (.leaf none) (.leaf none)))))))) (.branch 16 (.leaf (.leaf none)) (.branch 17 (.leaf (.branch 3 (.branch 1 (.leaf (some 17)) (.branch 2 (.leaf none) (.leaf none))) (.branch 5 (.branch 4 (.leaf (some 18)) (.leaf (some 19))) (.branch 6 (.leaf (some 20)) (.leaf none))))) (.leaf (.leaf none))))) (.branch 21 (.branch 19 (.leaf (.leaf none)) (.branch 20 (.leaf (.leaf none)) (.leaf (.leaf none)))) (.branch 22 (.leaf (.leaf none)) (.branch 23 (.leaf (.leaf none)) (.leaf (.branch 3 (.branch 1 (.leaf (some 24)) (.branch 2 (.leaf none) (.leaf none))) (.branch 4 (.leaf (some 27)) (.branch 5 (.leaf (some 28)) (.leaf none)))))))))) (.branch 36 (.branch 30 (.branch 27 (.branch 25 (.leaf (.branch 2 (.branch 1 (.leaf (some 25)) (.leaf none)) (.branch 3 (.leaf (some 26)) (.branch 4 (.leaf none) (.leaf none))))) (.branch 26 (.leaf (.leaf none)) (.leaf (.leaf none)))) (.branch 28 (.leaf (.leaf none)) (.branch 29 (.leaf (.leaf none)) (.leaf (.branch 3 (.branch 1 (.leaf none) (.branch 2 (.leaf (some 30)) (.leaf (some 31)))) (.branch 5 (.branch 4 (.leaf (some 32)) (.leaf (some 33))) (.branch 6 (.leaf (some 34)) (.leaf none)))))))) (.branch 33 (.branch 31 (.leaf (.leaf none)) (.branch 32 (.leaf (.leaf none)) (.leaf (.leaf none)))) (.branch 34 (.leaf (.leaf none)) (.branch 35 (.leaf (.leaf none)) (.leaf (.branch 3 (.branch 1 (.leaf none) (.branch 2 (.leaf none) (.leaf none))) (.branch 5 (.branch 4 (.leaf (some 36)) (.leaf (some 48))) (.branch 6 (.leaf (some 54)) (.leaf none))))))))) (.branch 42 (.branch 39 (.branch 37 (.leaf (.branch 10 (.branch 5 (.branch 2 (.branch 1 (.leaf (some 37)) (.leaf (some 38))) (.branch 3 (.leaf none) (.branch 4 (.leaf none) (.leaf (some 39))))) (.branch 7 (.branch 6 (.leaf (some 40)) (.leaf (some 41))) (.branch 8 (.leaf (some 42)) (.branch 9 (.leaf (some 43)) (.leaf none))))) (.branch 15 (.branch 12 (.branch 11 (.leaf none) (.leaf (some 44))) (.branch 13 (.leaf (some 45)) (.branch 14 (.leaf none) (.leaf (some 46))))) (.branch 17 (.branch 16 (.leaf none) (.leaf none)) (.branch 18 (.leaf (some 47)) (.branch 19 (.leaf none) (.leaf none))))))) (.branch 38 (.leaf (.leaf none)) (.leaf (.leaf none)))) (.branch 40 (.leaf (.leaf none)) (.branch 41 (.leaf (.leaf none)) (.leaf (.leaf none))))) (.branch 45 (.branch 43 (.leaf (.leaf none)) (.branch 44 (.leaf (.leaf none)) (.leaf (.leaf none)))) (.branch 47 (.branch 46 (.leaf (.leaf none)) (.leaf (.leaf none))) (.branch 48 (.leaf (.leaf none)) (.leaf (.branch 3 (.branch 1 (.leaf none) (.branch 2 (.leaf (some 49)) (.leaf (some 50)))) (.branch 5 (.branch 4 (.leaf (some 51)) (.leaf (some 52))) (.branch 6 (.leaf (some 53)) (.leaf none))))))))))) (.branch 74 (.branch 61 (.branch 55 (.branch 52 (.branch 50 (.leaf (.leaf none)) (.branch 51 (.leaf (.leaf none)) (.leaf (.leaf none)))) (.branch 53 (.leaf (.leaf none)) (.branch 54 (.leaf (.leaf none)) (.leaf (.leaf none))))) (.branch 58 (.branch 56 (.leaf (.branch 2 (.branch 1 (.leaf (some 56)) (.leaf (some 57))) (.branch 3 (.leaf (some 58)) (.leaf none)))) (.branch 57 (.leaf (.leaf none)) (.leaf (.leaf none)))) (.branch 59 (.leaf (.leaf none)) (.branch 60 (.leaf (.branch 3 (.branch 1 (.leaf (some 60)) (.branch 2 (.leaf none) (.leaf none))) (.branch 5 (.branch 4 (.leaf none) (.leaf (some 61))) (.branch 6 (.leaf (some 62)) (.leaf none))))) (.leaf (.leaf none)))))) (.branch 67 (.branch 64 (.branch 62 (.leaf (.leaf none)) (.branch 63 (.leaf (.leaf none)) (.leaf (.branch 2 (.branch 1 (.leaf none) (.leaf none)) (.branch 3 (.leaf (some 64)) (.branch 4 (.leaf none) (.leaf none))))))) (.branch 65 (.leaf (.leaf none)) (.branch 66 (.leaf (.leaf none)) (.leaf (.branch 31 (.branch 15 (.branch 7 (.branch 3 (.branch 1 (.leaf none) (.branch 2 (.leaf none) (.leaf (some 67)))) (.branch 5 (.branch 4 (.leaf (some 68)) (.leaf (some 69))) (.branch 6 (.leaf (some 70)) (.leaf (some 71))))) (.branch 11 (.branch 9 (.branch 8 (.leaf (some 72)) (.leaf none)) (.branch 10 (.leaf (some 73)) (.leaf (some 74)))) (.branch 13 (.branch 12 (.leaf none) (.leaf (some 75))) (.branch 14 (.leaf none) (.leaf none))))) (.branch 23 (.branch 19 (.branch 17 (.branch 16 (.leaf none) (.leaf none)) (.branch 18 (.leaf none) (.leaf none))) (.branch 21 (.branch 20 (.leaf none) (.leaf none)) (.branch 22 (.leaf none) (.leaf (some 76))))) (.branch 27 (.branch 25 (.branch 24 (.leaf none) (.leaf (some 77))) (.branch 26 (.leaf (some 78)) (.leaf none))) (.branch 29 (.branch 28 (.leaf (some 79)) (.leaf (some 80))) (.branch 30 (.leaf none) (.leaf none)))))) (.branch 47 (.branch 39 (.branch 35 (.branch 33 (.branch 32 (.leaf (some 81)) (.leaf (some 82))) (.branch 34 (.leaf (some 83)) (.leaf none))) (.branch 37 (.branch 36 (.leaf (some 84)) (.leaf (some 85))) (.branch 38 (.leaf (some 86)) (.leaf none)))) (.branch 43 (.branch 41 (.branch 40 (.leaf none) (.leaf none)) (.branch 42 (.leaf (some 87)) (.leaf (some 88)))) (.branch 45 (.branch 44 (.leaf (some 89)) (.leaf (some 90))) (.branch 46 (.leaf (some 91)) (.leaf none))))) (.branch 55 (.branch 51 (.branch 49 (.branch 48 (.leaf none) (.leaf (some 92))) (.branch 50 (.leaf (some 93)) (.leaf (some 94)))) (.branch 53 (.branch 52 (.leaf (some 95)) (.leaf (some 96))) (.branch 54 (.leaf (some 97)) (.leaf none)))) (.branch 59 (.branch 57 (.branch 56 (.leaf none) (.leaf none)) (.branch 58 (.leaf none) (.leaf none))) (.branch 61 (.branch 60 (.leaf (some 98)) (.leaf none)) (.branch 62 (.leaf none) (.leaf none))))))))))) (.branch 70 (.branch 68 (.leaf (.leaf none)) (.branch 69 (.leaf (.leaf none)) (.leaf (.leaf none)))) (.branch 72 (.branch 71 (.leaf (.leaf none)) (.leaf (.leaf none))) (.branch 73 (.leaf (.leaf none)) (.leaf (.leaf none))))))) (.branch 86 (.branch 80 (.branch 77 (.branch 75 (.leaf (.leaf none)) (.branch 76 (.leaf (.leaf none)) (.leaf (.leaf none)))) (.branch 78 (.leaf (.leaf none)) (.branch 79 (.leaf (.leaf none)) (.leaf (.leaf none))))) (.branch 83 (.branch 81 (.leaf (.leaf none)) (.branch 82 (.leaf (.leaf none)) (.leaf (.leaf none)))) (.branch 84 (.leaf (.leaf none)) (.branch 85 (.leaf (.leaf none)) (.leaf (.leaf none)))))) (.branch 92 (.branch 89 (.branch 87 (.leaf (.leaf none)) (.branch 88 (.leaf (.leaf none)) (.leaf (.leaf none)))) (.branch 90 (.leaf (.leaf none)) (.branch 91 (.leaf (.leaf none)) (.leaf (.leaf none))))) (.branch 95 (.branch 93 (.leaf (.leaf none)) (.branch 94 (.leaf (.leaf none)) (.leaf (.leaf none)))) (.branch 97 (.branch 96 (.leaf (.leaf none)) (.leaf (.leaf none))) (.branch 98 (.leaf (.leaf none)) (.leaf (.leaf none))))))))
noncomputable def am_rs (r : Nat → Nat → Option Nat) (a k : Nat) : Option Nat := (Nat.ble 99 a).rec (match (am_rr.get a).get k with
  | some b => some b
  | none => r a k) (r a k)
theorem am_le.nil : am_le [] [] := am_le.rf []
theorem am_le.cons {a : Value} {l l' : List Value} (h : am_le l l') : am_le (a :: l) (a :: l') := ⟨by simp [h.1], fun i v hi hv => by
  cases i with
  | zero => exact hi
  | succ i => exact h.2 i v hi hv⟩
theorem am_le.jk {a : Value} {l l' : List Value} (h : am_le l l') : am_le (am_jk :: l) (a :: l') := ⟨by simp [h.1], fun i v hi hv => by
  cases i with
  | zero => exact absurd (Option.some.inj hi).symm hv
  | succ i => exact h.2 i v hi hv⟩
def am_tn (T : Nat → Nat × Nat) (N k l : Nat) : Nat → Nat × Nat := fun b => if b = N then (k, l) else T b
def am_ci (I : am_I) (a0 a1 sp dp n : Nat) : am_I := fun b j => if b = a1 then va_cpy (I a0) (I a1) sp dp n j else I b j
theorem am_ts_hi {T : Nat → Nat × Nat} {a : Nat} (h : 99 ≤ a) : am_ts T a = T a := by
  have e : Nat.ble 99 a = true := Nat.ble_eq.mpr h
  unfold am_ts
  rw [e]
theorem am_rs_hi {r : Nat → Nat → Option Nat} {a k : Nat} (h : 99 ≤ a) : am_rs r a k = r a k := by
  have e : Nat.ble 99 a = true := Nat.ble_eq.mpr h
  unfold am_rs
  rw [e]
theorem am_ts_lo {T T' : Nat → Nat × Nat} {a : Nat} (h : a < 99) : am_ts T a = am_ts T' a := by
  have e : Nat.ble 99 a = false := by
    cases hb : Nat.ble 99 a with
    | false => rfl
    | true => exact absurd (Nat.ble_eq.mp hb) (by omega)
  unfold am_ts
  rw [e]
theorem am_rs_ap {r r' : Nat → Nat → Option Nat} {a k : Nat} (h : r a k = r' a k) : am_rs r a k = am_rs r' a k := by
  unfold am_rs
  rw [h]
theorem am_n_eq {N k l : Nat} {T : Nat → Nat × Nat} {I : am_I} {L : am_J} {r : Nat → Nat → Option Nat} (h : 99 ≤ N) : am_n (N, am_ts T, I, L, am_rs r) k l = (N + 1, am_ts (am_tn T N k l), am_z I N 0, am_z L N 0, am_rs (am_z r N none)) := by
  have e1 : (fun b => if b = N then (k, l) else am_ts T b) = am_ts (am_tn T N k l) := by
    funext b
    by_cases hb : b = N
    · subst hb
      rw [if_pos rfl, am_ts_hi h]
      simp [am_tn]
    · rw [if_neg hb]
      by_cases h9 : 99 ≤ b
      · rw [am_ts_hi h9, am_ts_hi h9]
        simp [am_tn, hb]
      · exact am_ts_lo (by omega)
  have e2 : am_z (am_rs r) N none = am_rs (am_z r N none) := by
    funext b j
    by_cases hb : b = N
    · subst hb
      rw [am_rs_hi h]
      simp [am_z]
    · rw [show am_z (am_rs r) N none b j = am_rs r b j from by simp [am_z, hb]]
      exact am_rs_ap (by simp [am_z, hb])
  show (N + 1, (fun b => if b = N then (k, l) else am_ts T b), am_z I N 0, am_z L N 0, am_z (am_rs r) N none) = _
  rw [e1, e2]
/-- a place whose reference isn't fixed -/
def am_fr (a i : Nat) : Prop := ∀ r : Nat → Nat → Option Nat, am_rs r a i = r a i
theorem am_fr_hi {a i : Nat} (h : 99 ≤ a) : am_fr a i := fun _ => am_rs_hi h
theorem am_rs_u {a i : Nat} {x : Option Nat} {r : Nat → Nat → Option Nat} (h : am_fr a i) : am_u (am_rs r) a i x = am_rs (am_u r a i x) := by
  funext b j
  by_cases hb : b = a
  · subst hb
    by_cases hj : j = i
    · subst hj
      rw [h (am_u r b j x)]
      simp [am_u]
    · rw [show am_u (am_rs r) b i x b j = am_rs r b j from by simp [am_u, hj]]
      exact am_rs_ap (by simp [am_u, hj])
  · rw [show am_u (am_rs r) a i x b j = am_rs r b j from by simp [am_u, hb]]
    exact am_rs_ap (by simp [am_u, hb])
theorem am_E.swap {S : am_S} {y d cs ss pc : Nat} {lo st : List Value} {h : am_H} {Q : am_Q} {x k : Int32} (e : x = k) (hh : am_E S y d cs ss pc lo (.int k :: st) h Q) : am_E S y d cs ss pc lo (.int x :: st) h Q := e ▸ hh
theorem am_ine {x k : Int32} (h : ¬ x = k) : x.toInt ≠ k.toInt := fun e => h (Int32.toInt_inj.mp e)
theorem am_ifp {c A B : Prop} {inst : Decidable c} (h : c) (hA : A) : @ite Prop c inst A B := by rw [if_pos h]; exact hA
theorem am_ifn {c A B : Prop} {inst : Decidable c} (h : ¬ c) (hB : B) : @ite Prop c inst A B := by rw [if_neg h]; exact hB
def am_ki_I (N : Nat) (T : Nat → Nat × Nat) (L : am_J) (r : Nat → Nat → Option Nat) (K : Int32 → am_I → Prop) : am_Q := fun v h => ∃ (q : Int32) (I1 : am_I), v = some (.int q) ∧ h = (N, am_ts T, I1, L, am_rs r) ∧ K q I1
def am_kv_I (N : Nat) (T : Nat → Nat × Nat) (L : am_J) (r : Nat → Nat → Option Nat) (K : am_I → Prop) : am_Q := fun v h => ∃ (I1 : am_I), v = none ∧ h = (N, am_ts T, I1, L, am_rs r) ∧ K I1
def am_kv_NTrIL (K : Nat → (Nat → Nat × Nat) → (Nat → Nat → Option Nat) → am_I → am_J → Prop) : am_Q := fun v h => ∃ (N1 : Nat) (T1 : Nat → Nat × Nat) (r1 : Nat → Nat → Option Nat) (I1 : am_I) (L1 : am_J), v = none ∧ h = (N1, am_ts T1, I1, L1, am_rs r1) ∧ K N1 T1 r1 I1 L1
def am_ki_ (N : Nat) (T : Nat → Nat × Nat) (I : am_I) (L : am_J) (r : Nat → Nat → Option Nat) (K : Int32 → Prop) : am_Q := fun v h => ∃ (q : Int32), v = some (.int q) ∧ h = (N, am_ts T, I, L, am_rs r) ∧ K q
def am_kv_NTrI (L : am_J) (K : Nat → (Nat → Nat × Nat) → (Nat → Nat → Option Nat) → am_I → Prop) : am_Q := fun v h => ∃ (N1 : Nat) (T1 : Nat → Nat × Nat) (r1 : Nat → Nat → Option Nat) (I1 : am_I), v = none ∧ h = (N1, am_ts T1, I1, L, am_rs r1) ∧ K N1 T1 r1 I1
def am_kr_ (N : Nat) (T : Nat → Nat × Nat) (I : am_I) (L : am_J) (r : Nat → Nat → Option Nat) (K : Option Nat → Prop) : am_Q := fun v h => ∃ (q : Option Nat), v = some (am_rv q) ∧ h = (N, am_ts T, I, L, am_rs r) ∧ K q
def am_kv_IL (N : Nat) (T : Nat → Nat × Nat) (r : Nat → Nat → Option Nat) (K : am_I → am_J → Prop) : am_Q := fun v h => ∃ (I1 : am_I) (L1 : am_J), v = none ∧ h = (N, am_ts T, I1, L1, am_rs r) ∧ K I1 L1
def am_kl_I (N : Nat) (T : Nat → Nat × Nat) (L : am_J) (r : Nat → Nat → Option Nat) (K : Int64 → am_I → Prop) : am_Q := fun v h => ∃ (q : Int64) (I1 : am_I), v = some (.long q) ∧ h = (N, am_ts T, I1, L, am_rs r) ∧ K q I1
def am_ki_L (N : Nat) (T : Nat → Nat × Nat) (I : am_I) (r : Nat → Nat → Option Nat) (K : Int32 → am_J → Prop) : am_Q := fun v h => ∃ (q : Int32) (L1 : am_J), v = some (.int q) ∧ h = (N, am_ts T, I, L1, am_rs r) ∧ K q L1
def am_kv_ (N : Nat) (T : Nat → Nat × Nat) (I : am_I) (L : am_J) (r : Nat → Nat → Option Nat) (K : Prop) : am_Q := fun v h => v = none ∧ h = (N, am_ts T, I, L, am_rs r) ∧ K
def am_ki_IL (N : Nat) (T : Nat → Nat × Nat) (r : Nat → Nat → Option Nat) (K : Int32 → am_I → am_J → Prop) : am_Q := fun v h => ∃ (q : Int32) (I1 : am_I) (L1 : am_J), v = some (.int q) ∧ h = (N, am_ts T, I1, L1, am_rs r) ∧ K q I1 L1
def am_kl_IL (N : Nat) (T : Nat → Nat × Nat) (r : Nat → Nat → Option Nat) (K : Int64 → am_I → am_J → Prop) : am_Q := fun v h => ∃ (q : Int64) (I1 : am_I) (L1 : am_J), v = some (.long q) ∧ h = (N, am_ts T, I1, L1, am_rs r) ∧ K q I1 L1
def am_ki_NTrI (L : am_J) (K : Int32 → Nat → (Nat → Nat × Nat) → (Nat → Nat → Option Nat) → am_I → Prop) : am_Q := fun v h => ∃ (q : Int32) (N1 : Nat) (T1 : Nat → Nat × Nat) (r1 : Nat → Nat → Option Nat) (I1 : am_I), v = some (.int q) ∧ h = (N1, am_ts T1, I1, L, am_rs r1) ∧ K q N1 T1 r1 I1
def am_kr_NTrIL (K : Option Nat → Nat → (Nat → Nat × Nat) → (Nat → Nat → Option Nat) → am_I → am_J → Prop) : am_Q := fun v h => ∃ (q : Option Nat) (N1 : Nat) (T1 : Nat → Nat × Nat) (r1 : Nat → Nat → Option Nat) (I1 : am_I) (L1 : am_J), v = some (am_rv q) ∧ h = (N1, am_ts T1, I1, L1, am_rs r1) ∧ K q N1 T1 r1 I1 L1
