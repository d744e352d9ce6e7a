/-! HOW THE SMALL MACHINE'S HEAP LIES IN THE REAL ONE -/
/-- where the new cells begin; what was there before; the classes, their slots, the classes of rows -/
abbrev am_V : Type := Nat × (Nat → Value) × (Nat → ClassId) × (Nat → Nat → Nat) × (Nat → ClassId)
def am_c (G : am_V) : Value → Value
  | .ref a => .ref (G.1 + a)
  | .retAddr t => G.2.1 t
  | v => v
def am_ft (c k : Nat) : Nat := (am_fts.getD c []).getD k 0
def am_kt (kind : Nat) : Nat := if kind = 21 then 1 else if kind = 23 ∨ kind = 24 then 2 else 0
abbrev am_D (G : am_V) : va_G := (G.2.2.1, G.2.2.2.1)
abbrev am_A (G : am_V) : Nat → Prop := fun q => G.1 ≤ q
abbrev am_ty (G : am_V) : List (ClassId × FieldType) := [(G.2.2.2.2 0, .int), (G.2.2.2.2 1, .long), (G.2.2.2.2 2, .boolean), (G.2.2.2.2 3, .object RX6), (G.2.2.2.2 4, .object RX10)]
def am_ob (G : am_V) (h : am_H) (H : Heap) (a ci : Nat) : Prop := ∃ r : vw_C, vwCl[ci]? = some r ∧ t_OB (G.1 + a) (G.2.2.1 ci) r.2.2 (G.2.2.2.1 ci) H (fun k => am_c G (am_gf h a k (am_ft ci k)))
def am_rw (G : am_V) (h : am_H) (H : Heap) (a kind len : Nat) : Prop := H[G.1 + a]? = some (arrV (G.2.2.2.2 (kind - 20)) len (fun j => am_c G (am_gf h a j (am_kt kind))))
def am_ce (G : am_V) (h : am_H) (H : Heap) (a : Nat) : Prop := if (h.2.1 a).1 < 20 then am_ob G h H a ((h.2.1 a).1 - 1) else am_rw G h H a (h.2.1 a).1 (h.2.1 a).2
def am_R (G : am_V) (h : am_H) (H : Heap) : Prop := H.size = G.1 + h.1 ∧ (∀ a, a < h.1 → am_ce G h H a) ∧ ∀ a, (h.2.1 a).1 ≠ 0 → a < h.1
theorem am_R.ob {G : am_V} {h : am_H} {H : Heap} (hR : am_R G h H) {a ci : Nat} (hk : (h.2.1 a).1 = ci + 1) (hc : ci < 19) : am_ob G h H a ci := by
  have h1 := hR.2.1 a (hR.2.2 a (by omega))
  unfold am_ce at h1
  rw [if_pos (by omega), hk, Nat.add_sub_cancel] at h1
  exact h1
theorem am_R.rw {G : am_V} {h : am_H} {H : Heap} (hR : am_R G h H) {a kind : Nat} (hk : (h.2.1 a).1 = kind) (hc : 20 ≤ kind) : am_rw G h H a kind (h.2.1 a).2 := by
  have h1 := hR.2.1 a (hR.2.2 a (by omega))
  unfold am_ce at h1
  rw [if_neg (by omega), hk] at h1
  exact h1
theorem am_R.put {G : am_V} {h h' : am_H} {H H1 : Heap} (hR : am_R G h H) {a : Nat} (z : H1.size = H.size) (oq : ∀ q : Nat, q ≠ G.1 + a → H1[q]? = H[q]?) (e1 : h'.1 = h.1) (e2 : h'.2.1 = h.2.1) (e3 : ∀ b, b ≠ a → ∀ j t, am_gf h' b j t = am_gf h b j t) (hn : am_ce G h' H1 a) : am_R G h' H1 := by
  refine ⟨by rw [z, e1]; exact hR.1, fun b hb => ?_, fun b hb => by rw [e1]; exact hR.2.2 b (by rw [← e2]; exact hb)⟩
  by_cases hab : b = a
  · rw [hab]; exact hn
  · have h1 := hR.2.1 b (by rw [← e1]; exact hb)
    unfold am_ce at h1 ⊢
    rw [e2]
    have hq : H1[G.1 + b]? = H[G.1 + b]? := oq _ (by omega)
    split
    · rename_i hc
      rw [if_pos hc] at h1
      obtain ⟨r, r1, r2⟩ := h1
      exact ⟨r, r1, (r2.kept hq).to (fun k _ => by rw [e3 b hab])⟩
    · rename_i hc
      rw [if_neg hc] at h1
      unfold am_rw at h1 ⊢
      rw [hq, h1]
      congr 2
      funext j
      rw [e3 b hab]
theorem am_gf_pI {h : am_H} {a k : Nat} {x : Int32} (b j t : Nat) : am_gf (am_pI h a k x) b j t = if b = a ∧ j = k ∧ t ≠ 1 ∧ t ≠ 2 then .int x else am_gf h b j t := by
  unfold am_gf am_pI am_u
  split <;> simp <;> by_cases h1 : b = a <;> by_cases h2 : j = k <;> simp_all
theorem am_gf_pL {h : am_H} {a k : Nat} {x : Int64} (b j t : Nat) : am_gf (am_pL h a k x) b j t = if b = a ∧ j = k ∧ t = 1 then .long x else am_gf h b j t := by
  unfold am_gf am_pL am_u
  split <;> simp <;> by_cases h1 : b = a <;> by_cases h2 : j = k <;> simp_all
theorem am_gf_pR {h : am_H} {a k : Nat} {x : Option Nat} (b j t : Nat) : am_gf (am_pR h a k x) b j t = if b = a ∧ j = k ∧ t = 2 then am_rv x else am_gf h b j t := by
  unfold am_gf am_pR am_u
  split <;> simp <;> by_cases h1 : b = a <;> by_cases h2 : j = k <;> simp_all
/-- a row's place stored -/
theorem am_R.putRow {G : am_V} {h h' : am_H} {H H1 : Heap} (hR : am_R G h H) {a kind i : Nat} {v : Value} (hk : (h.2.1 a).1 = kind) (hc : 20 ≤ kind) (e1 : h'.1 = h.1) (e2 : h'.2.1 = h.2.1) (e3 : ∀ b, b ≠ a → ∀ j t, am_gf h' b j t = am_gf h b j t)
    (e4 : ∀ j, am_gf h' a j (am_kt kind) = if j = i then v else am_gf h a j (am_kt kind)) (he : H1[G.1 + a]? = some ((arrV (G.2.2.2.2 (kind - 20)) (h.2.1 a).2 (fun j => am_c G (am_gf h a j (am_kt kind)))).setSlot i (am_c G v))) (z : H1.size = H.size) (oq : ∀ q : Nat, q ≠ G.1 + a → H1[q]? = H[q]?) : am_R G h' H1 := by
  refine hR.put z oq e1 e2 e3 ?_
  unfold am_ce
  rw [e2, hk, if_neg (by omega)]
  unfold am_rw
  rw [he, arrV_store]
  congr 2
  funext j
  unfold updV
  rw [e4]
  by_cases hj : j = i
  · simp [hj]
  · simp [hj]
/-- an object's field stored -/
theorem am_R.putOb {G : am_V} {h h' : am_H} {H H1 : Heap} (hR : am_R G h H) {a ci k : Nat} {r : vw_C} {cell : Cell} {v : Value} (hk : (h.2.1 a).1 = ci + 1) (hc : ci < 19) (hr : vwCl[ci]? = some r) (hkr : k < r.2.2) (hap : ∀ x y, x < r.2.2 → y < r.2.2 → x ≠ y → (G.2.2.2.1 ci) x ≠ (G.2.2.2.1 ci) y)
    (q2 : cell.cls = G.2.2.1 ci) (q3 : cell.vm = .none) (q4 : ∀ j, j < r.2.2 → cell.slots[(G.2.2.2.1 ci) j]? = some (am_c G (am_gf h a j (am_ft ci j))))
    (e1 : h'.1 = h.1) (e2 : h'.2.1 = h.2.1) (e3 : ∀ b, b ≠ a → ∀ j t, am_gf h' b j t = am_gf h b j t) (e4 : ∀ j, am_gf h' a j (am_ft ci j) = if j = k then v else am_gf h a j (am_ft ci j))
    (he : H1[G.1 + a]? = some (cell.setSlot ((G.2.2.2.1 ci) k) (am_c G v))) (z : H1.size = H.size) (oq : ∀ q : Nat, q ≠ G.1 + a → H1[q]? = H[q]?) : am_R G h' H1 := by
  refine hR.put z oq e1 e2 e3 ?_
  unfold am_ce
  rw [e2, hk, if_pos (by omega), Nat.add_sub_cancel]
  refine ⟨r, hr, _, he, q2, q3, fun j hj => ?_⟩
  have h1 := t_set q4 hap hkr (am_c G v) j hj
  rw [h1]
  show _ = some (am_c G (am_gf h' a j (am_ft ci j)))
  rw [e4]
  unfold updV
  by_cases hj : j = k
  · simp [hj]
  · simp [hj]
/-- the locals -/
def am_lo (G : am_V) (lo : List Value) (ls : Array Slot) : Prop := ls.size = lo.length ∧ lv_wf ls ∧ ∀ (i : Nat) (v : Value), lo[i]? = some v → v ≠ am_jk → ls[i]? = some (Slot.val (am_c G v))
def am_al (G : am_V) (lo : List Value) : List (Nat × Value) := (List.range lo.length).filterMap (fun i => match lo[i]? with
  | some v => if v = am_jk then none else some (i, am_c G v)
  | none => none)
theorem am_al_mem {G : am_V} {lo : List Value} {i : Nat} {v : Value} (h : lo[i]? = some v) (hv : v ≠ am_jk) : (i, am_c G v) ∈ am_al G lo := by
  refine List.mem_filterMap.mpr ⟨i, List.mem_range.mpr (List.getElem?_eq_some_iff.mp h).1, ?_⟩
  rw [h]
  simp [hv]
theorem am_lo.has {G : am_V} {lo : List Value} {ls : Array Slot} (h : am_lo G lo ls) : lv_has ls lo.length (am_al G lo) := by
  refine ⟨h.1, h.2.1, fun q hq => ?_⟩
  obtain ⟨i, -, hi⟩ := List.mem_filterMap.mp hq
  cases hl : lo[i]? with
  | none => rw [hl] at hi; cases hi
  | some v =>
    rw [hl] at hi
    by_cases hv : v = am_jk
    · simp [hv] at hi
    · simp [hv] at hi
      rw [← hi]
      exact h.2.2 i v hl hv
theorem am_kl_succ (lo : List Value) (k : Nat) : am_kl lo (k + 1) = (match lo[k]? with
    | some (.long _) => lo.set k am_jk
    | some (.double _) => lo.set k am_jk
    | _ => lo) := rfl
theorem am_kl_len {lo : List Value} : ∀ {i : Nat}, (am_kl lo i).length = lo.length
  | 0 => rfl
  | k + 1 => by
    rw [am_kl_succ]
    split
    · simp
    · simp
    · rfl
theorem am_kl_get {lo : List Value} {i j : Nat} {v : Value} (h : (am_kl lo i)[j]? = some v) (hv : v ≠ am_jk) : lo[j]? = some v ∧ ¬ (j + 1 = i ∧ v.category = 2) := by
  cases i with
  | zero => exact ⟨h, by omega⟩
  | succ k =>
    rw [am_kl_succ] at h
    have two : ∀ w : Value, lo[k]? = some w → (lo.set k am_jk)[j]? = some v → lo[j]? = some v ∧ ¬ (j + 1 = k + 1 ∧ v.category = 2) := by
      intro w hw h
      by_cases hj : j = k
      · subst hj
        have hl := (List.getElem?_eq_some_iff.mp hw).1
        rw [List.getElem?_set_self hl] at h
        exact absurd (Option.some.inj h).symm hv
      · rw [List.getElem?_set_ne (Ne.symm hj)] at h
        exact ⟨h, fun q => hj (by omega)⟩
    split at h
    · rename_i w hw
      exact two _ hw h
    · rename_i w hw
      exact two _ hw h
    · rename_i hw1 hw2
      refine ⟨h, fun q => ?_⟩
      have hjk : j = k := by omega
      subst hjk
      cases v with
      | long x => exact hw1 x h
      | double x => exact hw2 x h
      | _ => simp [Value.category] at q
theorem am_cat_c (G : am_V) (hG : ∀ t, (G.2.1 t).category = 1) (v : Value) : (am_c G v).category = v.category := by
  cases v <;> first | rfl | exact hG _
/-- a store of one word -/
theorem am_lo.s1 {G : am_V} {lo : List Value} {ls' : Array Slot} {i : Nat} {v : Value} (hG : ∀ t, (G.2.1 t).category = 1) (hi : i < lo.length) (h : lv_has ls' lo.length ((i, am_c G v) :: (am_al G lo).filter (fun q => !(q.1 == i) && !(q.1 + 1 == i && q.2.category == 2)))) : am_lo G (am_s1 lo i v) ls' := by
  refine ⟨by rw [h.1]; simp [am_s1, am_kl_len], h.2.1, fun j w hj hw => ?_⟩
  unfold am_s1 at hj
  by_cases hij : j = i
  · subst hij
    rw [List.getElem?_set_self (by rw [am_kl_len]; exact hi)] at hj
    cases hj
    exact h.2.2 _ List.mem_cons_self
  · rw [List.getElem?_set_ne (Ne.symm hij)] at hj
    obtain ⟨h1, h2⟩ := am_kl_get hj hw
    refine h.2.2 (j, am_c G w) (List.mem_cons_of_mem _ (List.mem_filter.mpr ⟨am_al_mem h1 hw, ?_⟩))
    simp only [am_cat_c G hG, Bool.and_eq_true, Bool.not_eq_true', beq_eq_false_iff_ne, Bool.and_eq_false_iff, ne_eq]
    refine ⟨hij, ?_⟩
    by_cases hj1 : j + 1 = i
    · exact Or.inr (fun q => h2 ⟨hj1, by simpa using q⟩)
    · exact Or.inl hj1
/-- a store of two words -/
theorem am_lo.s2 {G : am_V} {lo : List Value} {ls' : Array Slot} {i : Nat} {v : Value} (hG : ∀ t, (G.2.1 t).category = 1) (hi : i + 1 < lo.length) (h : lv_has ls' lo.length ((i, am_c G v) :: (am_al G lo).filter (fun q => !(q.1 == i) && (!(q.1 == i + 1) && !(q.1 + 1 == i && q.2.category == 2))))) : am_lo G (am_s2 lo i v) ls' := by
  refine ⟨by rw [h.1]; simp [am_s2, am_kl_len], h.2.1, fun j w hj hw => ?_⟩
  unfold am_s2 at hj
  by_cases hij1 : j = i + 1
  · subst hij1
    rw [List.getElem?_set_self (by rw [List.length_set, am_kl_len]; exact hi)] at hj
    exact absurd (Option.some.inj hj).symm hw
  rw [List.getElem?_set_ne (Ne.symm hij1)] at hj
  by_cases hij : j = i
  · subst hij
    rw [List.getElem?_set_self (by rw [am_kl_len]; omega)] at hj
    cases hj
    exact h.2.2 _ List.mem_cons_self
  · rw [List.getElem?_set_ne (Ne.symm hij)] at hj
    obtain ⟨h1, h2⟩ := am_kl_get hj hw
    refine h.2.2 (j, am_c G w) (List.mem_cons_of_mem _ (List.mem_filter.mpr ⟨am_al_mem h1 hw, ?_⟩))
    simp only [am_cat_c G hG, Bool.and_eq_true, Bool.not_eq_true', beq_eq_false_iff_ne, Bool.and_eq_false_iff, ne_eq]
    refine ⟨hij, hij1, ?_⟩
    by_cases hj1 : j + 1 = i
    · exact Or.inr (fun q => h2 ⟨hj1, by simpa using q⟩)
    · exact Or.inl hj1
