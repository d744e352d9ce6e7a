/-! law: what was read is a law -/
def dfl : FN := fun _ => none
def cG (l : List CLD) (c : Nat) : CLD := l.getD c (0, 1, [], none)
def lwx (l : List CLD) : LWX := (l.length, fun c => (cG l c).1, fun c => (cG l c).2.2.2.isSome, fun c => (cG l c).2.2.2.getD dfl, fun c => (cG l c).2.2.1.headD dfl)
def okCl (cl : CLD) : Prop := cl.1 ≤ 3 ∧ (cl.1 = 3 → cl.2.2.1 = []) ∧ (cl.1 ≠ 3 → ∃ f, cl.2.2.1 = [f]) ∧ ∀ f, cl.2.2.2 = some f → T01 f
theorem bd_inv {α β : Type} {r : Nat × Option α} {k : Nat → α → Nat × Option β} {j : Nat} {y : β} (h : bd r k = (j, some y)) : ∃ j1 x, r = (j1, some x) ∧ k j1 x = (j, some y) := by
  obtain ⟨r1, r2⟩ := r
  cases r2 with
  | none =>
    have h : ((r1, none) : Nat × Option β) = (j, some y) := h
    injection h with _ h
    cases h
  | some x => exact ⟨r1, x, rfl, h⟩
theorem ifP_ok {C : Nat → Nat} {law : Bool} {cl c : CLD} {i q j q' : Nat} (ok : okCl cl) (h : ifP C law cl i q = (j, some (q', c))) : okCl c := by
  unfold ifP at h
  by_cases e : C i = 1000008
  · rw [if_pos e] at h
    obtain ⟨j1, y, e1, e2⟩ := bd_inv h
    have t := tsD_01 (C := C) (law := law) 8 (i + 1) q j1 y.1 y.2 e1
    injection e2 with _ e2
    injection e2 with e2
    injection e2 with _ e2
    rw [← e2]
    exact ⟨ok.1, ok.2.1, ok.2.2.1, fun f hf => by
      have hf : some y.2 = some f := hf
      injection hf with hf
      rw [← hf]
      exact t⟩
  · rw [if_neg e] at h
    injection h with _ h
    injection h with h
    injection h with _ h
    rw [← h]
    exact ok
theorem clL_ok {C : Nat → Nat} {i q j q' : Nat} {c : CLD} (h : clL C i q = (j, some (q', c))) : okCl c := by
  unfold clL at h
  by_cases c3 : C i = 1000003
  · rw [if_pos c3] at h
    exact ifP_ok ⟨by show 3 ≤ 3; decide, fun _ => rfl, fun z => absurd rfl z, fun f hf => by cases hf⟩ h
  · rw [if_neg c3] at h
    by_cases c2 : 1000000 ≤ C i ∧ C i ≤ 1000002
    · rw [if_pos c2] at h
      obtain ⟨j1, y, e1, e2⟩ := bd_inv h
      exact ifP_ok ⟨by show C i - 1000000 ≤ 3; omega, fun z => by
        have z : C i - 1000000 = 3 := z
        omega, fun _ => ⟨_, rfl⟩, fun f hf => by cases hf⟩ e2
    · rw [if_neg c2] at h
      injection h with _ h
      cases h
theorem txP_ok {C : Nat → Nat} : ∀ k i q j l, txP C (clL C) k i q = (j, some l) → ∀ cl, cl ∈ l → okCl cl
  | 0, i, q, j, l, h => by
    have h : ((i, none) : Nat × Option (List CLD)) = (j, some l) := h
    injection h with _ h
    cases h
  | k + 1, i, q, j, l, h => by
    obtain ⟨j1, y, e1, e2⟩ := bd_inv (show bd (clL C i q) (fun j y => if C j = 3000000 then (j, some [y.2]) else if C j = 2000059 then bd (txP C (clL C) k (j + 1) y.1) (fun j2 l => (j2, some (y.2 :: l))) else (j, none)) = (j, some l) from h)
    have oy : okCl y.2 := clL_ok (q' := y.1) e1
    by_cases c1 : C j1 = 3000000
    · rw [if_pos c1] at e2
      injection e2 with _ e2
      injection e2 with e2
      intro cl hc
      rw [← e2] at hc
      rw [List.mem_singleton.mp hc]
      exact oy
    · rw [if_neg c1] at e2
      by_cases c2 : C j1 = 2000059
      · rw [if_pos c2] at e2
        obtain ⟨j3, l3, e3, e4⟩ := bd_inv e2
        injection e4 with _ e4
        injection e4 with e4
        intro cl hc
        rw [← e4] at hc
        rcases List.mem_cons.mp hc with z | z
        · rw [z]; exact oy
        · exact txP_ok k _ _ _ _ e3 cl z
      · rw [if_neg c2] at e2
        injection e2 with _ e2
        cases e2
theorem cG_e {l : List CLD} {c : Nat} {cl : CLD} (h : l[c]? = some cl) : cG l c = cl := by
  unfold cG
  rw [List.getD_eq_getElem?_getD, h]
  rfl
theorem pcs_of {l : List CLD} {M : Nat → Nat × Nat} {m : Nat → Nat} {s c D : Nat} {cl : CLD} (hc : l[c]? = some cl) (ok : okCl cl) (p : pz true M cl m) (hm : ∀ i, i < 5 → m i ≤ s) (hD : 20 ≤ D) : pcs M s D (lwx l) c (m 0) (m 1) (m 3) (m 4) := by
  have ec := cG_e hc
  obtain ⟨p1, p2, p3, p4, p5⟩ := p
  refine ⟨hm 1 (by decide), hm 4 (by decide), fun k3 => ?_, fun k3 => ?_, fun t => ?_, fun t => ?_⟩
  · have k3 : (cG l c).1 = 3 := k3
    rw [ec] at k3
    exact (p3 0 (by rw [ok.2.1 k3]; exact Nat.le_refl _) (by decide)).symm
  · have k3 : (cG l c).1 ≠ 3 := k3
    rw [ec] at k3
    obtain ⟨f, ef⟩ := ok.2.2.1 k3
    show Den M (m 0) (m 1) ((cG l c).2.2.1.headD dfl) D
    rw [ec, ef]
    exact Den_up ((p2 0 f (by rw [ef]; rfl)).2.2 M (fun _ _ _ => rfl)) hD
  · have t : (cG l c).2.2.2.isSome = false := t
    rw [ec] at t
    cases ht : cl.2.2.2 with
    | none => exact (p4 ht).symm
    | some f => rw [ht] at t; cases t
  · have t : (cG l c).2.2.2.isSome = true := t
    rw [ec] at t
    cases ht : cl.2.2.2 with
    | none => rw [ht] at t; cases t
    | some f =>
      show Den M (m 3) (m 4) ((cG l c).2.2.2.getD dfl) D
      rw [ec, ht]
      exact Den_up ((p5 f ht).2.2 M (fun _ _ _ => rfl)) hD
theorem okC_of {M : Nat → Nat × Nat} {k : Nat} (h : okM true k (M k)) : okC M k := ⟨h.1, fun z => absurd (h.2.2.2.1 z).1 (by decide), fun z => absurd (h.2.2.2.2.1 z).1 (by decide), h.2.1, fun z => (h.2.2.1 z).1 rfl, h.2.2.2.2.2⟩
theorem gse {l : List CLD} {c : Nat} (h : c < l.length) : ∃ cl, l[c]? = some cl := ⟨_, List.getElem?_eq_getElem h⟩
theorem okX_of {l : List CLD} (hl : l.length ≤ 12) (ok : ∀ cl, cl ∈ l → okCl cl) : okX (lwx l) := by
  refine ⟨hl, fun c hc => ?_⟩
  obtain ⟨cl, e⟩ := gse (l := l) hc
  have ec := cG_e e
  have o := ok cl (List.mem_of_getElem? e)
  refine ⟨by show (cG l c).1 ≤ 3; rw [ec]; exact o.1, fun t => ?_⟩
  have t : (cG l c).2.2.2.isSome = true := t
  rw [ec] at t
  show T01 ((cG l c).2.2.2.getD dfl)
  rw [ec]
  cases ht : cl.2.2.2 with
  | none => rw [ht] at t; cases t
  | some f => exact o.2.2.2 f ht
theorem lawr_of {l : List CLD} {M : Nat → Nat × Nat} {mk : Nat → Nat → Nat} {s k : Nat} {G J : am_I} (w : wrt G J k l.length s) (hs : s ≤ 400) (cd : CDr true G M s) (t : TXr RWl true l s M mk G) (ok : ∀ cl, cl ∈ l → okCl cl) : LAWr (J 68) (110 + 900 * k) (lwx l) := by
  obtain ⟨w1, w2, w3, w4, w5, w6, w7, w8⟩ := w
  refine ⟨s, M, mk, hs, w6, fun c hc => ?_, fun k' hk => ⟨?_, ?_, okC_of (t.2 k' hk)⟩, fun c hc => ?_⟩
  · have hc : c < l.length := hc
    obtain ⟨cl, e⟩ := gse hc
    obtain ⟨⟨a0, a1, a2, a3, a4, a5⟩, _, _⟩ := t.1 c cl e
    have h0 := w7 (8 * c) (by omega)
    have h3 := w7 (8 * c + 3) (by omega)
    have h4 := w7 (8 * c + 4) (by omega)
    have h5 := w7 (8 * c + 5) (by omega)
    have h6 := w7 (8 * c + 6) (by omega)
    refine ⟨h0.trans (a1.trans ?_), h3.trans a2, h4.trans a3, h5.trans a4, h6.trans a5⟩
    show nI cl.1 = nI (cG l c).1
    rw [cG_e e]
  · exact (w8 k' hk).1.trans (cd k' hk).1
  · exact (w8 k' hk).2.trans (cd k' hk).2
  · have hc : c < l.length := hc
    obtain ⟨cl, e⟩ := gse hc
    obtain ⟨_, a2, a3⟩ := t.1 c cl e
    exact pcs_of e (ok cl (List.mem_of_getElem? e)) a3 a2 (by decide)
