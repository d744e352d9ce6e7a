/-! the languages on paper: what a piece of text tells (C: its tokens by the class's numbers), or the token that can't go on there -/
abbrev Rs : Type := Nat × Option (Nat × FN)
def thn (r : Rs) (k : Nat → Nat → FN → Rs) : Rs := match r.2 with
  | none => (r.1, none)
  | some x => k r.1 x.1 x.2
theorem thn_n {j : Nat} {k : Nat → Nat → FN → Rs} : thn (j, none) k = (j, none) := rfl
theorem thn_s {j q : Nat} {f : FN} {k : Nat → Nat → FN → Rs} : thn (j, some (q, f)) k = k j q f := rfl
/-- the sign's operation, 0 if it is none -/
def sgo (c : Nat) : Nat := if c = 2000037 then 8 else if c = 2000042 then 6 else if c = 2000043 then 4 else if c = 2000045 then 5 else if c = 2000047 then 7 else if c = 2000060 then 9 else if c = 2000061 then 11 else if c = 2000062 then 10 else 0
theorem sgo_le (c : Nat) : sgo c ≤ 11 := by
  unfold sgo
  repeat' split
  all_goals omega
theorem sgo_sg {c : Nat} (h : 1 ≤ sgo c) : 2000037 ≤ c ∧ c ≤ 2000062 := by
  unfold sgo at h
  by_cases a : 2000037 ≤ c ∧ c ≤ 2000062
  · exact a
  · rw [if_neg (by omega), if_neg (by omega), if_neg (by omega), if_neg (by omega), if_neg (by omega), if_neg (by omega), if_neg (by omega), if_neg (by omega)] at h
    omega
def lfn (o w : Nat) : FN := fun e => some (lv e o w)
/-- pieces joined by signs from a to b, from the left -/
def lo (C : Nat → Nat) (a b : Nat) (X : Nat → Nat → Rs) : Nat → Nat → Nat → FN → Rs
  | 0, i, q, f => (i, some (q, f))
  | k + 1, i, q, f => if a ≤ sgo (C i) ∧ sgo (C i) ≤ b then thn (X (i + 1) q) (fun j q' g => lo C a b X k j q' (bnd (sgo (C i)) f g)) else (i, some (q, f))
def lpO (C : Nat → Nat) (a b : Nat) (X : Nat → Nat → Rs) (i q : Nat) : Rs := thn (X i q) (fun j q' f => lo C a b X 400 j q' f)
/-- pieces joined by a word -/
def sl (C : Nat → Nat) (o : Nat) (X : Nat → Nat → Rs) : Nat → Nat → Nat → FN → Rs
  | 0, i, q, f => (i, some (q, f))
  | k + 1, i, q, f => if C i = 1000000 + o then thn (X (i + 1) q) (fun j q' g => sl C o X k j q' (shd o f g)) else (i, some (q, f))
def lpW (C : Nat → Nat) (o : Nat) (X : Nat → Nat → Rs) (i q : Nat) : Rs := thn (X i q) (fun j q' f => sl C o X 400 j q' f)
/-- code that may be -/
def okM (law : Bool) (k : Nat) (v : Nat × Nat) : Prop := v.1 < 15 ∧ v.2 ≤ 100000 ∧ (v.1 = 1 → (law = true → v.2 < 10) ∧ (law = false → v.2 = 7 ∨ (10 ≤ v.2 ∧ v.2 < 14))) ∧ (v.1 = 2 → law = false ∧ v.2 < 8) ∧ (v.1 = 3 → law = false ∧ v.2 < 96) ∧ (13 ≤ v.1 → k + 1 ≤ v.2)
/-- words that stand for a number -/
def asw (law : Bool) (c : Nat) : Bool := if law = true then decide (1000016 ≤ c ∧ c ≤ 1000025) else decide (c = 1000023 ∨ (1000026 ≤ c ∧ c ≤ 1000031))
def wdP (C : Nat → Nat) (i q : Nat) : Rs :=
  if C i = 1000030 then (if C (i + 1) ≤ 7 then (i + 2, some (q, lfn 2 (C (i + 1)))) else (i + 1, none))
  else if C i = 1000031 then (if C (i + 1) ≤ 7 then (if C (i + 2) ≤ 11 then (i + 3, some (q, lfn 3 (C (i + 1) * 12 + C (i + 2)))) else (i + 2, none)) else (i + 1, none))
  else (i + 1, some (q, lfn 1 (C i - 1000016)))
def ptP (C : Nat → Nat) (law : Bool) (inn : Nat → Nat → Rs) (i q : Nat) : Rs :=
  if C i = 2000091 then inn i q
  else if 50 ≤ q then (i, none)
  else if C i ≤ 1000 then (i + 1, some (q + 1, lfn 0 (C i)))
  else if asw law (C i) = true then wdP C i (q + 1)
  else (i, none)
theorem asw_t {c : Nat} : asw true c = decide (1000016 ≤ c ∧ c ≤ 1000025) := rfl
theorem asw_f {c : Nat} : asw false c = decide (c = 1000023 ∨ (1000026 ≤ c ∧ c ≤ 1000031)) := rfl
theorem asw_c {law : Bool} {c : Nat} (h : asw law c = true) : 1000016 ≤ c ∧ c ≤ 1000031 ∧ (law = true → c ≤ 1000025) ∧ (law = false → c = 1000023 ∨ 1000026 ≤ c) := by
  cases law with
  | true =>
    have h := of_decide_eq_true (asw_t.symm.trans h)
    exact ⟨by omega, by omega, fun _ => h.2, fun q => by cases q⟩
  | false =>
    have h := of_decide_eq_true (asw_f.symm.trans h)
    exact ⟨by omega, by omega, (fun q => by cases q), fun _ => by omega⟩
theorem okM_w {law : Bool} {c k : Nat} (h : asw law c = true) (h1 : c ≠ 1000030) (h2 : c ≠ 1000031) : okM law k (1, c - 1000016) := by
  obtain ⟨a1, a2, a3, a4⟩ := asw_c h
  refine ⟨by show 1 < 15; decide, by show c - 1000016 ≤ 100000; omega, fun _ => ⟨fun q => ?_, fun q => ?_⟩, fun q => absurd q (by show ¬ 1 = 2; decide), fun q => absurd q (by show ¬ 1 = 3; decide), fun q => absurd q (by show ¬ 13 ≤ 1; decide)⟩
  · have := a3 q
    show c - 1000016 < 10
    omega
  · have := a4 q
    show c - 1000016 = 7 ∨ (10 ≤ c - 1000016 ∧ c - 1000016 < 14)
    omega
theorem okM_0 {law : Bool} {k w : Nat} (h : w ≤ 100000) : okM law k (0, w) := ⟨by show 0 < 15; decide, h, fun q => absurd q (by show ¬ 0 = 1; decide), fun q => absurd q (by show ¬ 0 = 2; decide), fun q => absurd q (by show ¬ 0 = 3; decide), fun q => absurd q (by show ¬ 13 ≤ 0; decide)⟩
theorem okM_2 {law : Bool} {k w : Nat} (hl : law = false) (h : w < 8) : okM law k (2, w) := ⟨by show 2 < 15; decide, by show w ≤ 100000; omega, fun q => absurd q (by show ¬ 2 = 1; decide), fun _ => ⟨hl, h⟩, fun q => absurd q (by show ¬ 2 = 3; decide), fun q => absurd q (by show ¬ 13 ≤ 2; decide)⟩
theorem okM_3 {law : Bool} {k w : Nat} (hl : law = false) (h : w < 96) : okM law k (3, w) := ⟨by show 3 < 15; decide, by show w ≤ 100000; omega, fun q => absurd q (by show ¬ 3 = 1; decide), fun q => absurd q (by show ¬ 3 = 2; decide), fun _ => ⟨hl, h⟩, fun q => absurd q (by show ¬ 13 ≤ 3; decide)⟩
/-- within brackets -/
def inO (C : Nat → Nat) (cl : Nat) (X : Nat → Nat → Rs) (i q : Nat) : Rs := thn (X (i + 1) q) (fun j q' f => if C j = cl then (j + 1, some (q', f)) else (j, none))
def inN (i _q : Nat) : Rs := (i, none)
def smD (C : Nat → Nat) (law : Bool) : Nat → Nat → Nat → Rs
  | 0 => lpO C 4 5 (lpO C 6 8 (ptP C law inN))
  | d + 1 => lpO C 4 5 (lpO C 6 8 (ptP C law (inO C 2000093 (smD C law d))))
def ntk (C : Nat → Nat) (i : Nat) : Nat := rnk (fun k => decide (C k = 1000015)) 400 i
def ntf (v : Nat) (f : FN) : FN := if v % 2 = 1 then ntd f else f
def plP (C : Nat → Nat) (inn sm : Nat → Nat → Rs) (i q : Nat) : Rs :=
  if C (ntk C i) = 2000040 then thn (inn (ntk C i) q) (fun j q' f => (j, some (q', ntf (ntk C i - i) f)))
  else thn (sm (ntk C i) q) (fun j q' f => if 9 ≤ sgo (C j) ∧ sgo (C j) ≤ 11 then thn (sm (j + 1) q') (fun j2 q2 g => (j2, some (q2, ntf (ntk C i - i) (bnd (sgo (C j)) f g)))) else (j, none))
def tsD (C : Nat → Nat) (law : Bool) : Nat → Nat → Nat → Rs
  | 0 => lpW C 13 (lpW C 14 (plP C inN (smD C law 0)))
  | d + 1 => lpW C 13 (lpW C 14 (plP C (inO C 2000041 (tsD C law d)) (smD C law (d + 1))))
/-- a piece of code, in whatever else stands around it -/
def PC (law : Bool) (M : Nat → Nat × Nat) (a b : Nat) (f : FN) (d : Nat) : Prop := a < b ∧ (∀ k, a ≤ k → k < b → okM law k (M k)) ∧ ∀ D : Nat → Nat × Nat, (∀ k, a ≤ k → k < b → D k = M k) → Den D a b f d
theorem PC_cg {law : Bool} {M M' : Nat → Nat × Nat} {a b d : Nat} {f : FN} (h : PC law M a b f d) (e : ∀ k, a ≤ k → k < b → M' k = M k) : PC law M' a b f d :=
  ⟨h.1, fun k k1 k2 => by rw [e k k1 k2]; exact h.2.1 k k1 k2, fun D hD => h.2.2 D (fun k k1 k2 => (hD k k1 k2).trans (e k k1 k2))⟩
theorem PC_up {law : Bool} {M : Nat → Nat × Nat} {a b d d' : Nat} {f : FN} (h : PC law M a b f d) (hd : d ≤ d') : PC law M a b f d' := ⟨h.1, h.2.1, fun D hD => Den_up (h.2.2 D hD) hd⟩
theorem PC_leaf {law : Bool} {M : Nat → Nat × Nat} {a o w : Nat} (e : M a = (o, w)) (ho : o < 4) (hk : okM law a (o, w)) : PC law M a (a + 1) (lfn o w) 1 := by
  refine ⟨by omega, fun k k1 k2 => ?_, fun D hD => Den_leaf (by rw [hD a (Nat.le_refl _) (by omega)]; exact e) ho⟩
  have ek : k = a := by omega
  rw [ek, e]
  exact hk
theorem okM_op {law : Bool} {k o w : Nat} (h1 : 4 ≤ o) (h2 : o < 13) (hw : w ≤ 100000) : okM law k (o, w) := ⟨by show o < 15; omega, hw, fun q => absurd q (by show ¬ o = 1; omega), fun q => absurd q (by show ¬ o = 2; omega), fun q => absurd q (by show ¬ o = 3; omega), fun q => absurd q (by show ¬ 13 ≤ o; omega)⟩
theorem PC_bin {law : Bool} {M : Nat → Nat × Nat} {a b c o w d1 d2 : Nat} {f g : FN} (h1 : PC law M a b f d1) (h2 : PC law M b c g d2) (e : M c = (o, w)) (ho : 4 ≤ o) (ho2 : o < 12) (hw : w ≤ 100000) : PC law M a (c + 1) (bnd o f g) (max d1 (d2 + 1)) := by
  have l1 := h1.1
  have l2 := h2.1
  refine ⟨by omega, fun k k1 k2 => ?_, fun D hD => Den_bin (h1.2.2 D (fun k k1 k2 => hD k k1 (by omega))) (h2.2.2 D (fun k k1 k2 => hD k (by omega) (by omega))) (by rw [hD c (by omega) (by omega)]; exact e) ho ho2⟩
  by_cases c1 : k < b
  · exact h1.2.1 k k1 c1
  · by_cases c2 : k < c
    · exact h2.2.1 k (by omega) c2
    · have ek : k = c := by omega
      rw [ek, e]
      exact okM_op ho (by omega) hw
theorem PC_not {law : Bool} {M : Nat → Nat × Nat} {a b w d : Nat} {f : FN} (h1 : PC law M a b f d) (e : M b = (12, w)) (hw : w ≤ 100000) : PC law M a (b + 1) (ntd f) d := by
  have l1 := h1.1
  refine ⟨by omega, fun k k1 k2 => ?_, fun D hD => Den_not (h1.2.2 D (fun k k1 k2 => hD k k1 (by omega))) (by rw [hD b (by omega) (by omega)]; exact e)⟩
  by_cases c1 : k < b
  · exact h1.2.1 k k1 c1
  · have ek : k = b := by omega
    rw [ek, e]
    exact okM_op (by omega) (by omega) hw
theorem PC_sh {law : Bool} {M : Nat → Nat × Nat} {a b j o d1 d2 : Nat} {f g : FN} (h1 : PC law M a b f d1) (e : M b = (o, j)) (ho : o = 13 ∨ o = 14) (hj : j ≤ 100000) (h2 : PC law M (b + 1) j g d2) : PC law M a j (shd o f g) (max d1 d2) := by
  have l1 := h1.1
  have l2 := h2.1
  refine ⟨by omega, fun k k1 k2 => ?_, fun D hD => Den_sh (h1.2.2 D (fun k k1 k2 => hD k k1 (by omega))) (by rw [hD b (by omega) (by omega)]; exact e) ho (h2.2.2 D (fun k k1 k2 => hD k (by omega) k2))⟩
  by_cases c1 : k < b
  · exact h1.2.1 k k1 c1
  · by_cases c2 : k = b
    · rw [c2, e]
      exact ⟨by show o < 15; omega, hj, fun q => absurd q (by show ¬ o = 1; omega), fun q => absurd q (by show ¬ o = 2; omega), fun q => absurd q (by show ¬ o = 3; omega), fun _ => by show b + 1 ≤ j; omega⟩
    · exact h2.2.1 k (by omega) k2
def up2 (M : Nat → Nat × Nat) (s : Nat) (v : Nat × Nat) : Nat → Nat × Nat := fun k => if k = s then v else M k
theorem up2_e {M : Nat → Nat × Nat} {s : Nat} {v : Nat × Nat} : up2 M s v s = v := if_pos rfl
theorem up2_n {M : Nat → Nat × Nat} {s k : Nat} {v : Nat × Nat} (h : k ≠ s) : up2 M s v k = M k := if_neg h
/-- tests are 0 or 1 -/
def R01 (X : Nat → Nat → Rs) : Prop := ∀ i q j q' f, X i q = (j, some (q', f)) → T01 f
theorem T01_nt {v : Nat} {f : FN} (h : T01 f) : T01 (ntf v f) := by
  unfold ntf
  split
  · exact T01_not h
  · exact h
theorem thn_inv {r : Rs} {k : Nat → Nat → FN → Rs} {j q : Nat} {f : FN} (h : thn r k = (j, some (q, f))) : ∃ j1 q1 f1, r = (j1, some (q1, f1)) ∧ k j1 q1 f1 = (j, some (q, f)) := by
  obtain ⟨r1, r2⟩ := r
  cases r2 with
  | none =>
    have h : ((r1, none) : Rs) = (j, some (q, f)) := h
    injection h with _ h
    cases h
  | some x => exact ⟨r1, x.1, x.2, rfl, h⟩
theorem sl_01 {C : Nat → Nat} {o : Nat} {X : Nat → Nat → Rs} (hX : R01 X) : ∀ k i q g j q' f, T01 g → sl C o X k i q g = (j, some (q', f)) → T01 f
  | 0, i, q, g, j, q', f, hg, h => by
    have h : ((i, some (q, g)) : Rs) = (j, some (q', f)) := h
    injection h with _ h
    injection h with h
    injection h with _ h
    rw [← h]
    exact hg
  | k + 1, i, q, g, j, q', f, hg, h => by
    have h : (if C i = 1000000 + o then thn (X (i + 1) q) (fun j q' g' => sl C o X k j q' (shd o g g')) else (i, some (q, g))) = (j, some (q', f)) := h
    by_cases c : C i = 1000000 + o
    · rw [if_pos c] at h
      obtain ⟨j1, q1, f1, e1, e2⟩ := thn_inv h
      exact sl_01 hX k j1 q1 _ j q' f (T01_sh hg (hX _ _ _ _ _ e1)) e2
    · rw [if_neg c] at h
      injection h with _ h
      injection h with h
      injection h with _ h
      rw [← h]
      exact hg
theorem lpW_01 {C : Nat → Nat} {o : Nat} {X : Nat → Nat → Rs} (hX : R01 X) : R01 (lpW C o X) := by
  intro i q j q' f h
  obtain ⟨j1, q1, f1, e1, e2⟩ := thn_inv h
  exact sl_01 hX _ _ _ _ _ _ _ (hX _ _ _ _ _ e1) e2
theorem plP_01 {C : Nat → Nat} {inn sm : Nat → Nat → Rs} (hX : R01 inn) : R01 (plP C inn sm) := by
  intro i q j q' f h
  unfold plP at h
  split at h
  · obtain ⟨j1, q1, f1, e1, e2⟩ := thn_inv h
    injection e2 with _ e2
    injection e2 with e2
    injection e2 with _ e2
    rw [← e2]
    exact T01_nt (hX _ _ _ _ _ e1)
  · obtain ⟨j1, q1, f1, e1, e2⟩ := thn_inv h
    split at e2
    · rename_i c
      obtain ⟨j3, q3, f3, e3, e4⟩ := thn_inv e2
      injection e4 with _ e4
      injection e4 with e4
      injection e4 with _ e4
      rw [← e4]
      exact T01_nt (T01_cmp c.1)
    · injection e2 with _ e2
      cases e2
theorem inO_01 {C : Nat → Nat} {cl : Nat} {X : Nat → Nat → Rs} (hX : R01 X) : R01 (inO C cl X) := by
  intro i q j q' f h
  obtain ⟨j1, q1, f1, e1, e2⟩ := thn_inv h
  split at e2
  · injection e2 with _ e2
    injection e2 with e2
    injection e2 with _ e2
    rw [← e2]
    exact hX _ _ _ _ _ e1
  · injection e2 with _ e2
    cases e2
theorem inN_01 : R01 inN := by
  intro i q j q' f h
  have h : ((i, none) : Rs) = (j, some (q', f)) := h
  injection h with _ h
  cases h
theorem tsD_01 {C : Nat → Nat} {law : Bool} : ∀ d, R01 (tsD C law d)
  | 0 => lpW_01 (lpW_01 (plP_01 inN_01))
  | d + 1 => lpW_01 (lpW_01 (plP_01 (inO_01 (tsD_01 d))))
