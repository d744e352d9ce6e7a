/-! clauses and texts on paper -/
/-- kind, times, sums, test -/
abbrev CLD : Type := Nat × Nat × List FN × Option FN
abbrev Rc : Type := Nat × Option (Nat × CLD)
def bd {α β : Type} (r : Nat × Option α) (k : Nat → α → Nat × Option β) : Nat × Option β := match r.2 with
  | none => (r.1, none)
  | some x => k r.1 x
def ifP (C : Nat → Nat) (law : Bool) (cl : CLD) (i q : Nat) : Rc := if C i = 1000008 then bd (tsD C law 8 (i + 1) q) (fun j y => (j, some (y.1, (cl.1, cl.2.1, cl.2.2.1, some y.2)))) else (i, some (q, cl))
def clL (C : Nat → Nat) (i q : Nat) : Rc :=
  if C i = 1000003 then ifP C true (3, 1, [], none) (i + 1) q
  else if 1000000 ≤ C i ∧ C i ≤ 1000002 then bd (smD C true 8 (i + 1) q) (fun j y => ifP C true (C i - 1000000, 1, [y.2], none) j y.1)
  else (i, none)
/-- clauses one behind the other, at most k -/
def txP (C : Nat → Nat) (CL : Nat → Nat → Rc) : Nat → Nat → Nat → Nat × Option (List CLD)
  | 0, i, _ => (i, none)
  | k + 1, i, q => bd (CL i q) (fun j y => if C j = 3000000 then (j, some [y.2]) else if C j = 2000059 then bd (txP C CL k (j + 1) y.1) (fun j2 l => (j2, some (y.2 :: l))) else (j, none))
/-- a clause's pieces of code between its marks -/
def pz (law : Bool) (M : Nat → Nat × Nat) (cl : CLD) (m : Nat → Nat) : Prop := cl.2.2.1.length ≤ 3 ∧ (∀ i f, cl.2.2.1[i]? = some f → PC law M (m i) (m (i + 1)) f 20) ∧ (∀ i, cl.2.2.1.length ≤ i → i < 3 → m (i + 1) = m i) ∧ (cl.2.2.2 = none → m 4 = m 3) ∧ ∀ f, cl.2.2.2 = some f → PC law M (m 3) (m 4) f 20
theorem gix {α : Type} {l : List α} {a x : α} {c : Nat} (h : (l ++ [a])[c]? = some x) : (c < l.length ∧ l[c]? = some x) ∨ (c = l.length ∧ x = a) := by
  by_cases e : c < l.length
  · rw [List.getElem?_append_left e] at h
    exact Or.inl ⟨e, h⟩
  · rw [List.getElem?_append_right (by omega)] at h
    by_cases z : c - l.length = 0
    · rw [z] at h
      have h : some a = some x := h
      injection h with h
      exact Or.inr ⟨by omega, h.symm⟩
    · obtain ⟨y, hy⟩ : ∃ y, c - l.length = y + 1 := ⟨c - l.length - 1, by omega⟩
      rw [hy] at h
      have h : (none : Option α) = some x := h
      cases h
theorem gixl {α : Type} {l : List α} {x : α} {c : Nat} (h : l[c]? = some x) : c < l.length := by
  by_cases e : c < l.length
  · exact e
  · rw [List.getElem?_eq_none (by omega)] at h
    cases h
theorem gixe {α : Type} {l : List α} {a : α} : (l ++ [a])[l.length]? = some a := by
  rw [List.getElem?_append_right (Nat.le_refl _), Nat.sub_self]
  rfl
theorem pz_cg {law : Bool} {M M' : Nat → Nat × Nat} {cl : CLD} {m m' : Nat → Nat} {s : Nat} (h : pz law M cl m) (hm : ∀ i, i < 5 → m i ≤ s) (e : ∀ k, k < s → M' k = M k) (em : ∀ i, i < 5 → m' i = m i) : pz law M' cl m' := by
  obtain ⟨h1, h2, h3, h4, h5⟩ := h
  refine ⟨h1, fun i f hi => ?_, fun i i1 i2 => ?_, fun hn => ?_, fun f hf => ?_⟩
  · have il := gixl hi
    have b := hm (i + 1) (by omega)
    rw [em i (by omega), em (i + 1) (by omega)]
    exact PC_cg (h2 i f hi) (fun k k1 k2 => e k (by omega))
  · rw [em i (by omega), em (i + 1) (by omega)]
    exact h3 i i1 i2
  · rw [em 3 (by decide), em 4 (by decide)]
    exact h4 hn
  · have b := hm 4 (by decide)
    rw [em 3 (by decide), em 4 (by decide)]
    exact PC_cg (h5 f hf) (fun k k1 k2 => e k (by omega))
/-- one sum more: it ends where the code ends -/
theorem pz_s {law : Bool} {M : Nat → Nat × Nat} {kd tm : Nat} {l : List FN} {m : Nat → Nat} {s s' : Nat} {f : FN} (h : pz law M (kd, tm, l, none) m) (hl : l.length < 3) (hs : ∀ j, l.length ≤ j → j < 5 → m j = s) (p : PC law M s s' f 20) : pz law M (kd, tm, l ++ [f], none) (fun j => if l.length + 1 ≤ j then s' else m j) := by
  obtain ⟨h1, h2, h3, h4, h5⟩ := h
  have el : (l ++ [f]).length = l.length + 1 := by rw [List.length_append]; rfl
  refine ⟨by show (l ++ [f]).length ≤ 3; omega, fun i g hi => ?_, fun i i1 i2 => ?_, fun _ => ?_, fun g hg => by cases hg⟩
  · have hi : (l ++ [f])[i]? = some g := hi
    show PC law M (if l.length + 1 ≤ i then s' else m i) (if l.length + 1 ≤ i + 1 then s' else m (i + 1)) g 20
    rcases gix hi with ⟨a, b⟩ | ⟨a, b⟩
    · rw [if_neg (by omega), if_neg (by omega)]
      exact h2 i g b
    · rw [if_neg (by omega), if_pos (by omega), hs i (by omega) (by omega), b]
      exact p
  · have i1 : (l ++ [f]).length ≤ i := i1
    show (if l.length + 1 ≤ i + 1 then s' else m (i + 1)) = (if l.length + 1 ≤ i then s' else m i)
    rw [if_pos (by omega), if_pos (by omega)]
  · show (if l.length + 1 ≤ 4 then s' else m 4) = (if l.length + 1 ≤ 3 then s' else m 3)
    rw [if_pos (by omega), if_pos (by omega)]
theorem pz_t {law : Bool} {M : Nat → Nat × Nat} {kd tm : Nat} {l : List FN} {m : Nat → Nat} {s s' : Nat} {f : FN} (h : pz law M (kd, tm, l, none) m) (hs : m 3 = s) (p : PC law M s s' f 20) : pz law M (kd, tm, l, some f) (fun j => if 4 ≤ j then s' else m j) := by
  obtain ⟨h1, h2, h3, h4, h5⟩ := h
  have h1 : l.length ≤ 3 := h1
  refine ⟨h1, fun i g hi => ?_, fun i i1 i2 => ?_, (fun hn => by cases hn), fun g hg => ?_⟩
  · have il : i < l.length := gixl hi
    show PC law M (if 4 ≤ i then s' else m i) (if 4 ≤ i + 1 then s' else m (i + 1)) g 20
    rw [if_neg (by omega), if_neg (by omega)]
    exact h2 i g hi
  · show (if 4 ≤ i + 1 then s' else m (i + 1)) = (if 4 ≤ i then s' else m i)
    rw [if_neg (by omega), if_neg (by omega)]
    exact h3 i i1 i2
  · have hg : some f = some g := hg
    injection hg with hg
    show PC law M (if 4 ≤ 3 then s' else m 3) (if 4 ≤ 4 then s' else m 4) g 20
    rw [if_neg (by omega), if_pos (by omega), hs, ← hg]
    exact p
