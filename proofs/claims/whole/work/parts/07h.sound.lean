/-! calls, and the whole -/
theorem am_ly_cons (v : Value) (vs : List Value) : am_ly (v :: vs) = if v.category = 2 then v :: am_jk :: am_ly vs else v :: am_ly vs := by
  cases v <;> rfl
theorem am_sl_len {G : am_V} (hG : ∀ t, (G.2.1 t).category = 1) : ∀ as : List Value, (lg_sl (as.map (am_c G))).length = (am_ly as).length
  | [] => rfl
  | v :: vs => by
    have ih := am_sl_len hG vs
    unfold lg_sl at ih ⊢
    rw [am_ly_cons, List.map_cons, List.flatMap_cons, List.length_append, ih, am_cat_c G hG]
    split <;> simp <;> omega
theorem am_args_mem {G : am_V} (hG : ∀ t, (G.2.1 t).category = 1) : ∀ (as : List Value) (i j : Nat) (w : Value), (am_ly as)[j]? = some w → w ≠ am_jk → (i + j, am_c G w) ∈ lv_args i (as.map (am_c G))
  | [], i, j, w, h, _ => by simp [am_ly] at h
  | v :: vs, i, j, w, h, hw => by
    rw [am_ly_cons] at h
    rw [List.map_cons, lv_args, am_cat_c G hG]
    split at h
    · rename_i hc
      rw [if_pos hc]
      cases j with
      | zero => cases h; exact List.mem_cons_self
      | succ j =>
        cases j with
        | zero => cases h; exact absurd rfl hw
        | succ j =>
          have h1 := am_args_mem hG vs (i + 2) j w h hw
          rw [show i + (j + 1 + 1) = i + 2 + j by omega]
          exact List.mem_cons_of_mem _ h1
    · rename_i hc
      rw [if_neg hc]
      cases j with
      | zero => cases h; exact List.mem_cons_self
      | succ j =>
        have h1 := am_args_mem hG vs (i + 1) j w h hw
        rw [show i + (j + 1) = i + 1 + j by omega]
        exact List.mem_cons_of_mem _ h1
theorem am_en_lo {G : am_V} (hG : ∀ t, (G.2.1 t).category = 1) {z : Nat} {as : List Value} (hlen : (am_en z as).length = am_ml z) : am_l (am_ml z) G (am_en z as) ((lg_sl (as.map (am_c G)) ++ List.replicate (am_ml z - (lg_sl (as.map (am_c G))).length) Slot.unset).toArray) := by
  have h1 : (am_ly as).length ≤ am_ml z := by
    rw [← hlen]
    unfold am_en
    rw [List.length_append]
    omega
  have h2 := lv_entry (as.map (am_c G)) (n := am_ml z) (by rw [am_sl_len hG]; exact h1)
  refine ⟨⟨h2.1.trans hlen.symm, h2.2.1, fun j w hj hw => ?_⟩, hlen⟩
  unfold am_en at hj
  by_cases hjl : j < (am_ly as).length
  · rw [List.getElem?_append_left hjl] at hj
    have h3 := am_args_mem hG as 0 j w hj hw
    rw [Nat.zero_add] at h3
    exact h2.2.2 _ h3
  · rw [List.getElem?_append_right (by omega), List.getElem?_replicate] at hj
    split at hj
    · cases hj; exact absurd rfl hw
    · cases hj
noncomputable def am_wc (z : Nat) : Cond := .code (am_nm z) (am_by z) (am_ml z) (am_rt z)
noncomputable def am_ws (z : Nat) : List Cond := [am_wc z]
noncomputable def am_rm (z d : Nat) : Room := { frames := d, cells := am_mc z, slots := am_ms z, locals := 60 * d }
def am_RS (G : am_V) (S : am_S) (h : am_H) (U : State) : Prop := am_R G h U.heap ∧ va_K (am_D G) vwCl (am_ty G) U ∧ am_PF G S U U.heap ∧ ∀ w ∈ am_tg, w.before #[] U = true
def am_Qc (G : am_V) (Q : am_Q) : Array Value → State → Outcome → State → Prop := fun _ st o t => (∃ (r : Option Value) (h' : am_H), o = .returned (r.map (am_c G)) ∧ Q r h' ∧ am_R G h' t.heap) ∧ va_F (am_A G) st t
/-- what the small machine's way means of the real one -/
def am_W (l : Launch) (G : am_V) (S : am_S) : am_X := fun y d cs ss pc lo st h Q =>
  ∀ (p : Program) (e : Env) (R : Room) (s : State) (m : MethodId) (args : Array Value) (below : List Frame) (meth : Method) (c : Code) (Qm : State → Prop) (H : Heap) (locs : List Loc) (ls : Array Slot),
    am_Y G S y p s m args meth c → d ≤ R.frames → 60 * d ≤ R.locals → am_mc y ≤ R.cells → am_ms y ≤ R.slots →
    (∀ (r : Option Value) (h' : am_H) (H' : Heap) (locs' : List Loc) (ls' : Array Slot) (pc' cs' ss' : Nat), am_ro (am_rt y) r → Q r h' → am_R G h' H' → va_S (am_A G) s.heap H' locs' → cs' ≤ am_mc y → ss' ≤ am_ms y → decode (am_by y) pc' = .ok (am_ri r, 1) → W p l e R s m args below meth c H' locs' cs' ss' Qm (F0 m pc' ls' (r.toList.map (am_c G)))) →
    cs ≤ am_mc y → ss ≤ am_ms y → am_R G h H → va_S (am_A G) s.heap H locs → am_l (am_ml y) G lo ls → W p l e R s m args below meth c H locs cs ss Qm (F0 m pc ls (st.map (am_c G)))
theorem am_jb_spec {M : am_M} (h : am_jb M = true) : plainName M.1.cls = true ∧ am_on M.2.2.2.2.2.2.2.1 = M.1.cls ∧ (M.2.2.2.2.2.2.2.2.2 = 1 → M.1.name = "<init>" ∧ M.2.2.2.1 = none) ∧ M.1.cls ≠ "java/lang/invoke/MethodHandle" ∧ M.1.cls ≠ "java/lang/invoke/VarHandle" ∧ (parseMethodDescriptor M.1.desc).map (fun d => d.parameters.length) = some M.2.2.2.2.2.2.2.2.1 ∧ M.2.2.1 ≤ 40 ∧ (M.2.2.2.2.2.2.1 = 0 ∨ (M.2.2.2.2.2.2.1 = 15 ∧ M.1.cls = "java/lang/String") ∨ (0 < M.2.2.2.2.2.2.1 ∧ M.2.2.2.2.2.2.1 ≤ 13 ∧ (am_qc (M.2.2.2.2.2.2.1 - 1)).1 = M.1.cls)) := by
  unfold am_jb at h
  simp only [Bool.and_eq_true, Bool.or_eq_true, decide_eq_true_eq] at h
  obtain ⟨⟨⟨⟨⟨⟨⟨h1, h2⟩, h3⟩, h4⟩, h5⟩, h6⟩, h7⟩, h8⟩ := h
  exact ⟨h1, h2, h3, h4, h5, h6, h7, or_assoc.mp h8⟩
theorem am_met {l : Launch} {G : am_V} {S : am_S} {z d : Nat} {as : List Value} {h : am_H} {Q : am_Q} (hj : am_jp (am_mm z)) (hlen : (am_en z as).length = am_ml z) (hX : am_W l G S z d 0 0 0 (am_en z as) [] h Q) : Met l (am_nm z) (am_ws z) (am_rm z d) (va_Pc (as.map (am_c G)) (am_RS G S h)) (am_Qc G Q) (am_mc z) (am_ms z) (am_A G) := by
  obtain ⟨j1, j2, j3, -⟩ := am_jb_spec hj.1
  refine Met.ofW (cc := am_by z) (maxL := am_ml z) (ret := am_rt z) j1 rfl ?_
  intro p e s m args below meth c s₁ B hml hv
  obtain ⟨rfl, hR, hK, hP, hT⟩ := hv
  have hlocks := B.notSynchronized
  have hr := B.returns
  have hown : s.vm.findClass (am_nm z).cls = some m.cls := findClass_of_methodNamed B.named
  have hnm : meth.name = (am_nm z).name := (name_of_methodNamed B.named B.method).1
  have hG : ∀ t, am_nr (G.2.1 t) := hP.2.2.2.2.2.2
  rw [lg_entry_eq]
  refine hX p e _ s m _ below meth c _ s.heap [] _ ⟨B.exec, B.bytes, hml, by rw [show am_on (am_ow z) = (am_nm z).cls from j2]; exact hown, fun w hw => am_mv_moved (List.mem_filter.mp hw).2 (State.WarmedH.refl s) (hT w hw), fun q => by rw [hnm]; exact (j3 q).1, hK, hP⟩ (Nat.le_refl d) (Nat.le_refl (60 * d)) (Nat.le_refl _) (Nat.le_refl _) ?_ (Nat.zero_le _) (Nat.zero_le _) hR va_S.rf (am_en_lo (am_cat1 hG) hlen)
  intro r h' H' locs' ls' pc' cs' ss' hro hq hR' hS' hc hs hdg
  refine W.widen hc hs ?_
  have hQ : ∀ t : State, t.heap = H' → s.WarmedH t.vm → am_Qc G Q (as.map (am_c G)).toArray s (.returned (r.map (am_c G))) t := fun t ht _ => ⟨⟨r, h', rfl, hq, by rw [ht]; exact hR'⟩, hS'.F ht⟩
  generalize am_rt z = rt at hro hr
  unfold am_ro at hro
  split at hro
  · exact W.vret B.exec B.bytes hr hQ hS'.2.2 hdg
  · exact W.iret B.exec B.bytes hr hQ hS'.2.2 hdg
  · exact W.zret B.exec B.bytes hr (by rcases hro with q | q <;> subst q <;> rfl) hQ hS'.2.2 hdg
  · exact W.zret B.exec B.bytes hr hro hQ hS'.2.2 hdg
  · exact W.zret B.exec B.bytes hr hro hQ hS'.2.2 hdg
  · exact W.lret B.exec B.bytes hr hQ hS'.2.2 hdg
  · exact W.aret B.exec B.bytes hr (Or.inl ⟨_, rfl⟩) (Or.inr ⟨_, rfl⟩) hQ hS'.2.2 hdg
  · exact W.aret B.exec B.bytes hr (Or.inl ⟨_, rfl⟩) (Or.inl rfl) hQ hS'.2.2 hdg
  · exact hro.elim
