/-! the machine of both, on paper: a code, what words are, a pile of numbers -/
abbrev FN : Type := (Nat → Nat → Int) → Option Int
def bigI : Int := 1000000000
def jv (o : Nat) (x y : Int) : Int := if o = 4 then x + y else if o = 5 then x - y else if o = 6 then x * y else if o = 7 then Int.tdiv x y else if o = 8 then Int.tmod x y else if o = 9 then (if x < y then 1 else 0) else if o = 10 then (if y < x then 1 else 0) else (if x = y then 1 else 0)
def jn (o : Nat) (x y : Int) : Option Int := if (o = 7 ∨ o = 8) ∧ y = 0 then none else if 1000000000 < jv o x y ∨ jv o x y < -1000000000 then none else some (jv o x y)
def lv (e : Nat → Nat → Int) (o a : Nat) : Int := if o = 0 then (a : Int) else e o a
def stp (M : Nat) (e : Nat → Nat → Int) (o a k : Nat) (s : List Int) : Option (Option (Nat × List Int)) :=
  if o < 4 then (if s.length < M then some (some (k + 1, lv e o a :: s)) else none)
  else if o < 12 then (match s with
    | y :: x :: t => (match jn o x y with
      | none => some none
      | some v => some (some (k + 1, v :: t)))
    | _ => none)
  else (match s with
    | x :: t => if o = 12 then some (some (k + 1, (1 - x) :: t)) else if x = (if o = 13 then 1 else 0) then some (some (max (k + 1) a, x :: t)) else some (some (k + 1, t))
    | [] => none)
/-- none: it can't be; some none: BROKEN -/
def rnf (C : Nat → Nat × Nat) (M : Nat) (e : Nat → Nat → Int) (c : Nat) : Nat → Nat → List Int → Option (Option (List Int))
  | 0, _, s => some (some s)
  | n + 1, k, s => if c ≤ k then some (some s) else match stp M e (C k).1 (C k).2 k s with
    | none => none
    | some none => some none
    | some (some q) => rnf C M e c n q.1 q.2
def run (C : Nat → Nat × Nat) (M : Nat) (e : Nat → Nat → Int) (c k : Nat) (s : List Int) : Option (Option (List Int)) := rnf C M e c (c - k) k s
theorem stp_gt {M : Nat} {e : Nat → Nat → Int} {o a k : Nat} {s : List Int} {q : Nat × List Int} (h : stp M e o a k s = some (some q)) : k < q.1 := by
  unfold stp at h
  split at h
  · split at h
    · cases h
      exact Nat.lt_succ_self k
    · cases h
  · split at h
    · split at h
      · split at h
        · cases h
        · cases h
          exact Nat.lt_succ_self k
      · cases h
    · split at h
      · split at h
        · cases h
          exact Nat.lt_succ_self k
        · generalize (if o = 13 then (1 : Int) else 0) = z at h
          split at h
          · cases h
            exact Nat.lt_of_lt_of_le (Nat.lt_succ_self k) (Nat.le_max_left _ _)
          · cases h
            exact Nat.lt_succ_self k
      · cases h
theorem rnf_more {C : Nat → Nat × Nat} {M : Nat} {e : Nat → Nat → Int} {c : Nat} : ∀ n k s, c - k ≤ n → rnf C M e c n k s = rnf C M e c (c - k) k s
  | 0, k, s, h => by
    have z : c - k = 0 := by omega
    rw [z]
  | n + 1, k, s, h => by
    by_cases l : c ≤ k
    · rw [show c - k = 0 by omega]
      show (if c ≤ k then some (some s) else _) = some (some s)
      rw [if_pos l]
    · obtain ⟨j, hj⟩ : ∃ j, c - k = j + 1 := ⟨c - k - 1, by omega⟩
      rw [hj]
      show (if c ≤ k then some (some s) else match stp M e (C k).1 (C k).2 k s with
        | none => none
        | some none => some none
        | some (some q) => rnf C M e c n q.1 q.2) = (if c ≤ k then some (some s) else match stp M e (C k).1 (C k).2 k s with
        | none => none
        | some none => some none
        | some (some q) => rnf C M e c j q.1 q.2)
      rw [if_neg l, if_neg l]
      cases hs : stp M e (C k).1 (C k).2 k s with
      | none => rfl
      | some qq =>
        cases qq with
        | none => rfl
        | some q =>
        have g := stp_gt hs
        show rnf C M e c n q.1 q.2 = rnf C M e c j q.1 q.2
        rw [rnf_more n q.1 q.2 (by omega), rnf_more j q.1 q.2 (by omega)]
theorem run_end {C : Nat → Nat × Nat} {M : Nat} {e : Nat → Nat → Int} {c k : Nat} {s : List Int} (h : c ≤ k) : run C M e c k s = some (some s) := by
  unfold run
  rw [show c - k = 0 by omega]
  rfl
theorem run_step {C : Nat → Nat × Nat} {M : Nat} {e : Nat → Nat → Int} {c k : Nat} {s : List Int} (h : k < c) : run C M e c k s = match stp M e (C k).1 (C k).2 k s with
    | none => none
    | some none => some none
    | some (some q) => run C M e c q.1 q.2 := by
  unfold run
  obtain ⟨j, hj⟩ : ∃ j, c - k = j + 1 := ⟨c - k - 1, by omega⟩
  rw [hj]
  show (if c ≤ k then some (some s) else _) = _
  rw [if_neg (by omega)]
  cases hs : stp M e (C k).1 (C k).2 k s with
  | none => rfl
  | some qq =>
    cases qq with
    | none => rfl
    | some q =>
    have g := stp_gt hs
    show rnf C M e c j q.1 q.2 = rnf C M e c (c - q.1) q.1 q.2
    exact rnf_more j q.1 q.2 (by omega)
/-- a piece of code tells f, with at most d numbers on the pile -/
def Den (C : Nat → Nat × Nat) (a b : Nat) (f : FN) (d : Nat) : Prop := a < b ∧ ∀ M e s c, s.length + d ≤ M → b ≤ c → run C M e c a s = match f e with
  | none => some none
  | some v => run C M e c b (v :: s)
theorem Den_up {C : Nat → Nat × Nat} {a b : Nat} {f : FN} {d d' : Nat} (h : Den C a b f d) (hd : d ≤ d') : Den C a b f d' := ⟨h.1, fun M e s c h1 h2 => h.2 M e s c (by omega) h2⟩
theorem Den_leaf {C : Nat → Nat × Nat} {a o w : Nat} (hC : C a = (o, w)) (ho : o < 4) : Den C a (a + 1) (fun e => some (lv e o w)) 1 := by
  refine ⟨by omega, fun M e s c h1 h2 => ?_⟩
  rw [run_step (by omega), hC]
  unfold stp
  rw [if_pos ho, if_pos (by omega)]
def bnd (o : Nat) (f g : FN) : FN := fun e => match f e with
  | none => none
  | some x => match g e with
    | none => none
    | some y => jn o x y
theorem Den_bin {C : Nat → Nat × Nat} {a b c o w : Nat} {f g : FN} {d1 d2 : Nat} (h1 : Den C a b f d1) (h2 : Den C b c g d2) (hC : C c = (o, w)) (ho : 4 ≤ o) (ho2 : o < 12) : Den C a (c + 1) (bnd o f g) (max d1 (d2 + 1)) := by
  refine ⟨by have := h1.1; have := h2.1; omega, fun M e s z m1 m2 => ?_⟩
  rw [h1.2 M e s z (by omega) (by have := h2.1; omega)]
  unfold bnd
  cases f e with
  | none => rfl
  | some x =>
    show run C M e z b (x :: s) = _
    rw [h2.2 M e (x :: s) z (by rw [List.length_cons]; omega) (by omega)]
    cases g e with
    | none => rfl
    | some y =>
      show run C M e z c (y :: x :: s) = _
      rw [run_step (by omega), hC]
      unfold stp
      rw [if_neg (by omega), if_pos ho2]
      show (match (match jn o x y with
        | none => some none
        | some v => some (some (c + 1, v :: s))) with
        | none => none
        | some none => some none
        | some (some q) => run C M e z q.1 q.2) = match jn o x y with
        | none => some none
        | some v => run C M e z (c + 1) (v :: s)
      cases jn o x y <;> rfl
def ntd (f : FN) : FN := fun e => match f e with
  | none => none
  | some x => some (1 - x)
theorem Den_not {C : Nat → Nat × Nat} {a b w : Nat} {f : FN} {d : Nat} (h1 : Den C a b f d) (hC : C b = (12, w)) : Den C a (b + 1) (ntd f) d := by
  refine ⟨by have := h1.1; omega, fun M e s z m1 m2 => ?_⟩
  rw [h1.2 M e s z m1 (by omega)]
  unfold ntd
  cases f e with
  | none => rfl
  | some x =>
    show run C M e z b (x :: s) = _
    rw [run_step (by omega), hC]
    rfl
def shd (o : Nat) (f g : FN) : FN := fun e => match f e with
  | none => none
  | some x => if x = (if o = 13 then 1 else 0) then some x else g e
theorem Den_sh {C : Nat → Nat × Nat} {a b j o : Nat} {f g : FN} {d1 d2 : Nat} (h1 : Den C a b f d1) (hC : C b = (o, j)) (ho : o = 13 ∨ o = 14) (h2 : Den C (b + 1) j g d2) : Den C a j (shd o f g) (max d1 d2) := by
  refine ⟨by have := h1.1; have := h2.1; omega, fun M e s z m1 m2 => ?_⟩
  have hj := h2.1
  rw [h1.2 M e s z (by omega) (by omega)]
  unfold shd
  cases f e with
  | none => rfl
  | some x =>
    show run C M e z b (x :: s) = _
    rw [run_step (by omega), hC]
    have e0 : stp M e o j b (x :: s) = if x = (if o = 13 then 1 else 0) then some (some (max (b + 1) j, x :: s)) else some (some (b + 1, s)) := by
      unfold stp
      rw [if_neg (by omega), if_neg (by omega)]
      show (if o = 12 then _ else _) = _
      rw [if_neg (by omega)]
    show (match stp M e o j b (x :: s) with
      | none => none
      | some none => some none
      | some (some q) => run C M e z q.1 q.2) = _
    rw [e0]
    by_cases c : x = (if o = 13 then 1 else 0)
    · rw [if_pos c]
      show run C M e z (max (b + 1) j) (x :: s) = (match (if x = (if o = 13 then 1 else 0) then some x else g e) with
        | none => some none
        | some v => run C M e z j (v :: s))
      rw [if_pos c, Nat.max_eq_right (by omega)]
    · rw [if_neg c]
      show run C M e z (b + 1) s = (match (if x = (if o = 13 then 1 else 0) then some x else g e) with
        | none => some none
        | some v => run C M e z j (v :: s))
      rw [if_neg c]
      exact h2.2 M e s z (by omega) m2
/-- the answer of a piece of code alone -/
theorem Den_run {C : Nat → Nat × Nat} {a b : Nat} {f : FN} {d M : Nat} (h : Den C a b f d) (hd : d ≤ M) (e : Nat → Nat → Int) : run C M e b a [] = match f e with
    | none => some none
    | some v => some (some [v]) := by
  rw [h.2 M e [] b (by rw [List.length_nil]; omega) (Nat.le_refl b)]
  cases f e with
  | none => rfl
  | some v =>
    show run C M e b b [v] = some (some [v])
    exact run_end (Nat.le_refl b)
/-- a test is 0 or 1 -/
def T01 (f : FN) : Prop := ∀ e v, f e = some v → v = 0 ∨ v = 1
theorem T01_cmp {o : Nat} {f g : FN} (h1 : 9 ≤ o) : T01 (bnd o f g) := by
  intro e v h
  unfold bnd at h
  cases hf : f e with
  | none => rw [hf] at h; cases h
  | some x =>
    rw [hf] at h
    cases hg : g e with
    | none => rw [hg] at h; cases h
    | some y =>
      rw [hg] at h
      have h : jn o x y = some v := h
      unfold jn at h
      rw [if_neg (by omega)] at h
      split at h
      · cases h
      · have e2 : jv o x y = v := Option.some.inj h
        rw [← e2]
        unfold jv
        rw [if_neg (by omega), if_neg (by omega), if_neg (by omega), if_neg (by omega), if_neg (by omega)]
        split
        · split
          · exact Or.inr rfl
          · exact Or.inl rfl
        · split
          · split
            · exact Or.inr rfl
            · exact Or.inl rfl
          · split
            · exact Or.inr rfl
            · exact Or.inl rfl
theorem T01_not {f : FN} (h : T01 f) : T01 (ntd f) := by
  intro e v q
  unfold ntd at q
  cases hf : f e with
  | none => rw [hf] at q; cases q
  | some x =>
    rw [hf] at q
    have e2 : 1 - x = v := Option.some.inj q
    rcases h e x hf with z | z <;> omega
theorem T01_sh {o : Nat} {f g : FN} (h1 : T01 f) (h2 : T01 g) : T01 (shd o f g) := by
  intro e v q
  unfold shd at q
  cases hf : f e with
  | none => rw [hf] at q; cases q
  | some x =>
    rw [hf] at q
    have q : (if x = (if o = 13 then 1 else 0) then some x else g e) = some v := q
    by_cases c : x = (if o = 13 then 1 else 0)
    · rw [if_pos c] at q
      rw [← Option.some.inj q]
      exact h1 e x hf
    · rw [if_neg c] at q
      exact h2 e v q
theorem ntd_2 {f : FN} : ntd (ntd f) = f := by
  funext e
  unfold ntd
  cases f e with
  | none => rfl
  | some x =>
    show some (1 - (1 - x)) = some x
    rw [show 1 - (1 - x) = x by omega]
