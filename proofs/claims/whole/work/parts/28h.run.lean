/-! orders: what a clause that was read is like -/
def okO (cl : CLD) : Prop := cl.1 ≤ 3 ∧ cl.2.2.1.length = (if cl.1 = 0 then 2 else if cl.1 = 1 then 3 else 0) ∧ ∀ f, cl.2.2.2 = some f → T01 f
theorem ifP_oO {C : Nat → Nat} {law : Bool} {cl c : CLD} {i q j q' : Nat} (ok : okO cl) (h : ifP C law cl i q = (j, some (q', c))) : okO c := by
  unfold ifP at h
  by_cases e : C i = 1000008
  · rw [if_pos e] at h
    obtain ⟨j1, y, e1, e2⟩ := bd_inv h
    have t := tsD_01 (C := C) (law := law) 8 (i + 1) q j1 y.1 y.2 e1
    injection e2 with _ e2
    injection e2 with e2
    injection e2 with _ e2
    rw [← e2]
    exact ⟨ok.1, ok.2.1, fun f hf => by
      have hf : some y.2 = some f := hf
      injection hf with hf
      rw [← hf]
      exact t⟩
  · rw [if_neg e] at h
    injection h with _ h
    injection h with h
    injection h with _ h
    rw [← h]
    exact ok
theorem tmP_oO {C : Nat → Nat} {kd : Nat} {fs : List FN} {c : CLD} {i q j q' : Nat} (ok : okO (kd, 1, fs, none)) (h : tmP C (kd, 1, fs, none) i q = (j, some (q', c))) : okO c := by
  unfold tmP at h
  by_cases e : C i = 1000009
  · rw [if_pos e] at h
    by_cases e2 : 1 ≤ C (i + 1) ∧ C (i + 1) ≤ 20
    · rw [if_pos e2] at h
      exact ifP_oO (cl := (kd, C (i + 1), fs, none)) ⟨ok.1, ok.2.1, fun f hf => by cases hf⟩ h
    · rw [if_neg e2] at h
      injection h with _ h
      cases h
  · rw [if_neg e] at h
    exact ifP_oO ok h
theorem clO_oO {C : Nat → Nat} {i q j q' : Nat} {c : CLD} (h : clO C i q = (j, some (q', c))) : okO c := by
  unfold clO at h
  by_cases c4 : C i = 1000004
  · rw [if_pos c4] at h
    obtain ⟨j1, y, e1, e2⟩ := bd_inv h
    by_cases d1 : C j1 = 1000010
    · rw [if_pos d1] at e2
      obtain ⟨j2, y2, e3, e4⟩ := bd_inv e2
      exact tmP_oO (kd := 0) (fs := [y.2, y2.2]) ⟨by show 0 ≤ 3; decide, rfl, fun f hf => by cases hf⟩ e4
    · rw [if_neg d1] at e2
      injection e2 with _ e2
      cases e2
  · rw [if_neg c4] at h
    by_cases c5 : C i = 1000005
    · rw [if_pos c5] at h
      obtain ⟨j1, y, e1, e2⟩ := bd_inv h
      by_cases d1 : C j1 = 1000011
      · rw [if_pos d1] at e2
        obtain ⟨j2, y2, e3, e4⟩ := bd_inv e2
        unfold gvP at e4
        by_cases d2 : C j2 = 1000012
        · rw [if_pos d2] at e4
          obtain ⟨j3, y3, e5, e6⟩ := bd_inv e4
          exact tmP_oO (kd := 1) (fs := [y.2, y2.2, y3.2]) ⟨by show 1 ≤ 3; decide, rfl, fun f hf => by cases hf⟩ e6
        · rw [if_neg d2] at e4
          injection e4 with _ e4
          cases e4
      · rw [if_neg d1] at e2
        injection e2 with _ e2
        cases e2
    · rw [if_neg c5] at h
      by_cases c6 : C i = 1000006 ∨ C i = 1000007
      · rw [if_pos c6] at h
        refine tmP_oO (kd := C i - 1000004) (fs := []) ⟨by show C i - 1000004 ≤ 3; omega, ?_, fun f hf => by cases hf⟩ h
        show 0 = if C i - 1000004 = 0 then 2 else if C i - 1000004 = 1 then 3 else 0
        rw [if_neg (by omega), if_neg (by omega)]
      · rw [if_neg c6] at h
        injection h with _ h
        cases h
theorem txP_oO {C : Nat → Nat} : ∀ k i q j l, txP C (clO C) k i q = (j, some l) → ∀ cl, cl ∈ l → okO cl
  | 0, i, q, j, l, h => by
    have h : ((i, none) : Nat × Option (List CLD)) = (j, some l) := h
    injection h with _ h
    cases h
  | k + 1, i, q, j, l, h => by
    obtain ⟨j1, y, e1, e2⟩ := bd_inv (show bd (clO C i q) (fun j y => if C j = 3000000 then (j, some [y.2]) else if C j = 2000059 then bd (txP C (clO C) k (j + 1) y.1) (fun j2 l => (j2, some (y.2 :: l))) else (j, none)) = (j, some l) from h)
    have oy : okO y.2 := clO_oO (q' := y.1) e1
    by_cases c1 : C j1 = 3000000
    · rw [if_pos c1] at e2
      injection e2 with _ e2
      injection e2 with e2
      intro cl hc
      rw [← e2] at hc
      rw [List.mem_singleton.mp hc]
      exact oy
    · rw [if_neg c1] at e2
      by_cases c2 : C j1 = 2000059
      · rw [if_pos c2] at e2
        obtain ⟨j3, l3, e3, e4⟩ := bd_inv e2
        injection e4 with _ e4
        injection e4 with e4
        intro cl hc
        rw [← e4] at hc
        rcases List.mem_cons.mp hc with z | z
        · rw [z]; exact oy
        · exact txP_oO k (j1 + 1) y.1 j3 l3 e3 cl z
      · rw [if_neg c2] at e2
        injection e2 with _ e2
        cases e2
