/-! THE REAL MACHINE DOES WHAT THE SMALL ONE DOES: one instruction -/
/-- the words that a call takes along -/
def am_mv : Cond → Bool
  | .methodLinkNest _ _ _ _ => true
  | .arrayOver (.object _) => true
  | .stringRef _ _ _ => true
  | w => goodWord w
theorem am_mv_moved {w : Cond} (hm : am_mv w = true) {A A' : Array Value} {s U : State} (hW : s.WarmedH U.vm) (h : w.before A s = true) : w.before A' U = true := by
  unfold am_mv at hm
  split at hm
  · exact va_tabs rfl (rfl : (s.setVm U.vm).vm = U.vm) (Cond.methodLinkNest_warmed hW h)
  · exact va_AO.use (va_AO.moved hW.alike (va_AO.of h))
  · have h1 := Cond.stringRef_warmed hW h
    simp only [Cond.before, Cond.holds, Cond.value, State.names, State.poolOf?, State.resolvedAt?] at h1 ⊢
    exact h1
  · exact word_at hW (good_of_word hm) h
def am_tg : List Cond := lw_tbl.filter am_mv
theorem am_tg_of {w : Cond} (h : w ∈ lw_tbl) (hm : am_mv w = true) : w ∈ am_tg := List.mem_filter.mpr ⟨h, hm⟩
theorem am_lay_mv {C : String} {T : u_T} {N : Nat} {w : Cond} (h : w ∈ u_ws C T N) : am_mv w = true := by
  obtain ⟨k, -, rfl⟩ := List.mem_map.mp h
  unfold u_lay
  split <;> rfl
theorem am_wo_mv (q : Nat × Nat × Nat × Int) : am_mv (am_wo q) = true := by
  obtain ⟨k, o, i, z⟩ := q
  unfold am_wo
  simp only []
  split <;> first | rfl | (split <;> first | rfl | (split <;> rfl))
theorem am_w_tg (i : Nat) : am_wo (am_tr.get i).2 ∈ am_tg := am_tg_of (am_w_in i) (am_wo_mv _)
def am_nr (w : Value) : Prop := w = .null ∨ ∃ a : Nat, w = .ref a
/-- what was there before -/
def am_PF (G : am_V) (S : am_S) (U : State) (H : Heap) : Prop :=
  (∃ t : Nat, G.2.1 0 = .ref t ∧ va_Z "KeyKeepers" "TERM_LEAST" "[I" (.ref t) (am_A G) U H ∧ va_T .int t (am_pe S 0).1 (fun k => .int ((am_pe S 0).2 k)) (am_A G) U H) ∧
  (∃ t : Nat, G.2.1 1 = .ref t ∧ va_Z "KeyKeepers" "TERM_MOST" "[I" (.ref t) (am_A G) U H ∧ va_T .int t (am_pe S 1).1 (fun k => .int ((am_pe S 1).2 k)) (am_A G) U H) ∧
  (∃ t q : Nat, G.2.1 2 = .ref t ∧ G.2.1 4 = .ref q ∧ vk_R "KeyKeepers$Reader" 164 am_tx t U ∧ va_O "java/lang/String" t (am_A G) U H ∧ va_OF "java/lang/String" "coder" "B" (.int 0) t (am_A G) U H ∧ va_OF "java/lang/String" "value" "[B" (.ref q) t (am_A G) U H ∧ va_T .byte q (am_pe S 4).1 (fun k => .int ((am_pe S 4).2 k)) (am_A G) U H) ∧
  (∃ t : Nat, G.2.1 3 = .ref t ∧ va_T .int t (am_pe S 3).1 (fun k => .int ((am_pe S 3).2 k)) (am_A G) U H) ∧
  va_Z "jdk/internal/util/Preconditions" "SIOOBE_FORMATTER" "Ljava/util/function/BiFunction;" (G.2.1 5) (am_A G) U H ∧
  va_Z "java/lang/String" "COMPACT_STRINGS" "Z" (.int 1) (am_A G) U H ∧ ∀ t, am_nr (G.2.1 t)
theorem am_PF.moved {G : am_V} {S : am_S} {s U : State} {locs : List Loc} (h : am_PF G S s s.heap) (hW : s.WarmedH U.vm) (hS : va_S (am_A G) s.heap U.heap locs) : am_PF G S U U.heap := by
  obtain ⟨⟨t0, a1, a2, a3⟩, ⟨t1, b1, b2, b3⟩, ⟨t, q, c1, c2, c3, c4, c5, c6, c7⟩, ⟨t3, d1, d2⟩, e1, e2, e3⟩ := h
  have hA := hW.alike
  exact ⟨⟨t0, a1, (a2.kept hS.2.1).moved hA, (a3.kept hS.2.1).moved hA⟩, ⟨t1, b1, (b2.kept hS.2.1).moved hA, (b3.kept hS.2.1).moved hA⟩, ⟨t, q, c1, c2, c3.warm hW, (c4.kept hS.2.1).moved hA, (c5.kept hS.2.1).moved hA, (c6.kept hS.2.1).moved hA, (c7.kept hS.2.1).moved hA⟩, ⟨t3, d1, (d2.kept hS.2.1).moved hA⟩, (e1.kept hS.2.1).moved hA, (e2.kept hS.2.1).moved hA, e3⟩
theorem am_isr_nr {G : am_V} (hG : ∀ t, am_nr (G.2.1 t)) {v : Value} (h : am_isr v = true) : am_nr (am_c G v) := by
  cases v with
  | ref a => exact Or.inr ⟨_, rfl⟩
  | null => exact Or.inl rfl
  | retAddr t => exact hG t
  | _ => simp [am_isr] at h
theorem am_isr_jk {v : Value} (h : am_isr v = true) : v ≠ am_jk := by
  rintro rfl
  simp [am_isr, am_jk] at h
theorem am_cat1 {G : am_V} (hG : ∀ t, am_nr (G.2.1 t)) (t : Nat) : (G.2.1 t).category = 1 := by
  rcases hG t with h | ⟨a, h⟩ <;> rw [h] <;> rfl
theorem am_rv_nr {G : am_V} (o : Option Nat) : am_c G (am_rv o) = va_rf (o.map (G.1 + ·)) := by
  cases o <;> rfl
theorem am_s1_len {lo : List Value} {i : Nat} {v : Value} : (am_s1 lo i v).length = lo.length := by simp [am_s1, am_kl_len]
theorem am_s2_len {lo : List Value} {i : Nat} {v : Value} : (am_s2 lo i v).length = lo.length := by simp [am_s2, am_kl_len]
def am_l (nl : Nat) (G : am_V) (lo : List Value) (ls : Array Slot) : Prop := am_lo G lo ls ∧ lo.length = nl
section AMS
variable {p : Program} {l : Launch} {e : Env} {R : Room} {s : State} {m : MethodId} {args : Array Value} {below : List Frame} {meth : Method} {c : Code} {Qm : State → Prop} {cc : ByteArray}
variable {G : am_V} {S : am_S} {pc la cs ss : Nat} {lo st : List Value} {h : am_H} {H : Heap} {locs : List Loc} {ls : Array Slot} {go : am_go} {nl : Nat}
abbrev am_K (p : Program) (l : Launch) (e : Env) (R : Room) (s : State) (m : MethodId) (args : Array Value) (below : List Frame) (meth : Method) (c : Code) (Qm : State → Prop) (G : am_V) (nl cs ss : Nat) (go : am_go) : Prop :=
  ∀ (pc : Nat) (lo st : List Value) (h : am_H) (H : Heap) (locs : List Loc) (ls : Array Slot), go pc lo st h → am_R G h H → va_S (am_A G) s.heap H locs → am_l nl G lo ls → W p l e R s m args below meth c H locs cs ss Qm (F0 m pc ls (st.map (am_c G)))
theorem am_w_ldr {k : Fin 4} (hx : p.tables.exec = Jvm.exec) (hb : c.code = cc) (hG : ∀ t, am_nr (G.2.1 t)) (hdg : decode cc pc = .ok (.aload_n k, 1)) (hk : k.val = la) (hF : am_ldr go (pc + 1) la lo st h) (K : am_K p l e R s m args below meth c Qm G nl cs ss go) (hR : am_R G h H) (hS : va_S (am_A G) s.heap H locs) (hl : am_l nl G lo ls) : W p l e R s m args below meth c H locs cs ss Qm (F0 m pc ls (st.map (am_c G))) := by
  unfold am_ldr at hF
  split at hF
  · rename_i w hw
    split at hF
    · rename_i hi
      have h1 := hl.1.2.2 _ _ hw (am_isr_jk hi)
      have h2 := K _ _ _ _ _ _ _ hF hR hS hl
      rw [List.map_cons] at h2
      rcases am_isr_nr hG hi with q | ⟨x, q⟩ <;> rw [q] at h1 h2
      · exact lv_aload_nN hx hb hdg hk h1 h2
      · exact lv_aload_n hx hb hdg hk h1 h2
    · exact hF.elim
  · exact hF.elim
theorem am_w_ldrw {k : Nat} (hx : p.tables.exec = Jvm.exec) (hb : c.code = cc) (hG : ∀ t, am_nr (G.2.1 t)) (hdg : decode cc pc = .ok (.aload k, 2)) (hk : k = la) (hF : am_ldr go (pc + 2) la lo st h) (K : am_K p l e R s m args below meth c Qm G nl cs ss go) (hR : am_R G h H) (hS : va_S (am_A G) s.heap H locs) (hl : am_l nl G lo ls) : W p l e R s m args below meth c H locs cs ss Qm (F0 m pc ls (st.map (am_c G))) := by
  subst hk
  unfold am_ldr at hF
  split at hF
  · rename_i w hw
    split at hF
    · rename_i hi
      have h1 := hl.1.2.2 _ _ hw (am_isr_jk hi)
      have h2 := K _ _ _ _ _ _ _ hF hR hS hl
      rw [List.map_cons] at h2
      rcases am_isr_nr hG hi with q | ⟨x, q⟩ <;> rw [q] at h1 h2
      · exact lv_aloadN hx hb hdg h1 h2
      · exact lv_aload hx hb hdg h1 h2
    · exact hF.elim
  · exact hF.elim
theorem am_w_ldi {k : Fin 4} (hx : p.tables.exec = Jvm.exec) (hb : c.code = cc) (hdg : decode cc pc = .ok (.iload_n k, 1)) (hk : k.val = la) (hF : am_ldi go (pc + 1) la lo st h) (K : am_K p l e R s m args below meth c Qm G nl cs ss go) (hR : am_R G h H) (hS : va_S (am_A G) s.heap H locs) (hl : am_l nl G lo ls) : W p l e R s m args below meth c H locs cs ss Qm (F0 m pc ls (st.map (am_c G))) := by
  unfold am_ldi at hF
  split at hF
  · rename_i w hw
    exact lv_iload_n hx hb hdg hk (hl.1.2.2 _ _ hw (by simp [am_jk])) (K _ _ _ _ _ _ _ hF hR hS hl)
  · exact hF.elim
theorem am_w_ldiw {k : Nat} (hx : p.tables.exec = Jvm.exec) (hb : c.code = cc) (hdg : decode cc pc = .ok (.iload k, 2)) (hk : k = la) (hF : am_ldi go (pc + 2) la lo st h) (K : am_K p l e R s m args below meth c Qm G nl cs ss go) (hR : am_R G h H) (hS : va_S (am_A G) s.heap H locs) (hl : am_l nl G lo ls) : W p l e R s m args below meth c H locs cs ss Qm (F0 m pc ls (st.map (am_c G))) := by
  subst hk
  unfold am_ldi at hF
  split at hF
  · rename_i w hw
    exact lv_iload hx hb hdg (hl.1.2.2 _ _ hw (by simp [am_jk])) (K _ _ _ _ _ _ _ hF hR hS hl)
  · exact hF.elim
theorem am_w_ldl {k : Fin 4} (hx : p.tables.exec = Jvm.exec) (hb : c.code = cc) (hdg : decode cc pc = .ok (.lload_n k, 1)) (hk : k.val = la) (hF : am_ldl go (pc + 1) la lo st h) (K : am_K p l e R s m args below meth c Qm G nl cs ss go) (hR : am_R G h H) (hS : va_S (am_A G) s.heap H locs) (hl : am_l nl G lo ls) : W p l e R s m args below meth c H locs cs ss Qm (F0 m pc ls (st.map (am_c G))) := by
  unfold am_ldl at hF
  split at hF
  · rename_i w hw
    exact lv_lload_n hx hb hdg hk (hl.1.2.2 _ _ hw (by simp [am_jk])) (K _ _ _ _ _ _ _ hF hR hS hl)
  · exact hF.elim
theorem am_w_ldlw {k : Nat} (hx : p.tables.exec = Jvm.exec) (hb : c.code = cc) (hdg : decode cc pc = .ok (.lload k, 2)) (hk : k = la) (hF : am_ldl go (pc + 2) la lo st h) (K : am_K p l e R s m args below meth c Qm G nl cs ss go) (hR : am_R G h H) (hS : va_S (am_A G) s.heap H locs) (hl : am_l nl G lo ls) : W p l e R s m args below meth c H locs cs ss Qm (F0 m pc ls (st.map (am_c G))) := by
  subst hk
  unfold am_ldl at hF
  split at hF
  · rename_i w hw
    exact lv_lload hx hb hdg (hl.1.2.2 _ _ hw (by simp [am_jk])) (K _ _ _ _ _ _ _ hF hR hS hl)
  · exact hF.elim
theorem am_w_str {k : Fin 4} (hx : p.tables.exec = Jvm.exec) (hb : c.code = cc) (hG : ∀ t, am_nr (G.2.1 t)) (hdg : decode cc pc = .ok (.astore_n k, 1)) (hk : k.val = la) (hn : la < lo.length) (hF : am_str go (pc + 1) la lo st h) (K : am_K p l e R s m args below meth c Qm G nl cs ss go) (hR : am_R G h H) (hS : va_S (am_A G) s.heap H locs) (hl : am_l nl G lo ls) : W p l e R s m args below meth c H locs cs ss Qm (F0 m pc ls (st.map (am_c G))) := by
  unfold am_str at hF
  split at hF
  · rename_i w r
    split at hF
    · rename_i hi
      rw [List.map_cons]
      rcases am_isr_nr hG hi with q | ⟨x, q⟩ <;> rw [q]
      · exact lv_astore_nN hx hb hdg hk hl.1.has hn rfl (fun ls' h' => K _ _ _ _ _ _ _ hF hR hS ⟨am_lo.s1 (v := w) (am_cat1 hG) hn (by rw [q]; exact h'), by rw [am_s1_len]; exact hl.2⟩)
      · exact lv_astore_n hx hb hdg hk hl.1.has hn rfl (fun ls' h' => K _ _ _ _ _ _ _ hF hR hS ⟨am_lo.s1 (v := w) (am_cat1 hG) hn (by rw [q]; exact h'), by rw [am_s1_len]; exact hl.2⟩)
    · exact hF.elim
  · exact hF.elim
theorem am_w_strw {k : Nat} (hx : p.tables.exec = Jvm.exec) (hb : c.code = cc) (hG : ∀ t, am_nr (G.2.1 t)) (hdg : decode cc pc = .ok (.astore k, 2)) (hk : k = la) (hn : la < lo.length) (hF : am_str go (pc + 2) la lo st h) (K : am_K p l e R s m args below meth c Qm G nl cs ss go) (hR : am_R G h H) (hS : va_S (am_A G) s.heap H locs) (hl : am_l nl G lo ls) : W p l e R s m args below meth c H locs cs ss Qm (F0 m pc ls (st.map (am_c G))) := by
  subst hk
  unfold am_str at hF
  split at hF
  · rename_i w r
    split at hF
    · rename_i hi
      rw [List.map_cons]
      rcases am_isr_nr hG hi with q | ⟨x, q⟩ <;> rw [q]
      · exact lv_astoreN hx hb hdg hl.1.has hn rfl (fun ls' h' => K _ _ _ _ _ _ _ hF hR hS ⟨am_lo.s1 (v := w) (am_cat1 hG) hn (by rw [q]; exact h'), by rw [am_s1_len]; exact hl.2⟩)
      · exact lv_astore hx hb hdg hl.1.has hn rfl (fun ls' h' => K _ _ _ _ _ _ _ hF hR hS ⟨am_lo.s1 (v := w) (am_cat1 hG) hn (by rw [q]; exact h'), by rw [am_s1_len]; exact hl.2⟩)
    · exact hF.elim
  · exact hF.elim
theorem am_w_sti {k : Fin 4} (hx : p.tables.exec = Jvm.exec) (hb : c.code = cc) (hG : ∀ t, am_nr (G.2.1 t)) (hdg : decode cc pc = .ok (.istore_n k, 1)) (hk : k.val = la) (hn : la < lo.length) (hF : am_sti go (pc + 1) la lo st h) (K : am_K p l e R s m args below meth c Qm G nl cs ss go) (hR : am_R G h H) (hS : va_S (am_A G) s.heap H locs) (hl : am_l nl G lo ls) : W p l e R s m args below meth c H locs cs ss Qm (F0 m pc ls (st.map (am_c G))) := by
  unfold am_sti at hF
  split at hF
  · rename_i w r
    exact lv_istore_n hx hb hdg hk hl.1.has hn rfl (fun ls' h' => K _ _ _ _ _ _ _ hF hR hS ⟨am_lo.s1 (v := .int w) (am_cat1 hG) hn h', by rw [am_s1_len]; exact hl.2⟩)
  · exact hF.elim
theorem am_w_stiw {k : Nat} (hx : p.tables.exec = Jvm.exec) (hb : c.code = cc) (hG : ∀ t, am_nr (G.2.1 t)) (hdg : decode cc pc = .ok (.istore k, 2)) (hk : k = la) (hn : la < lo.length) (hF : am_sti go (pc + 2) la lo st h) (K : am_K p l e R s m args below meth c Qm G nl cs ss go) (hR : am_R G h H) (hS : va_S (am_A G) s.heap H locs) (hl : am_l nl G lo ls) : W p l e R s m args below meth c H locs cs ss Qm (F0 m pc ls (st.map (am_c G))) := by
  subst hk
  unfold am_sti at hF
  split at hF
  · rename_i w r
    exact lv_istore hx hb hdg hl.1.has hn rfl (fun ls' h' => K _ _ _ _ _ _ _ hF hR hS ⟨am_lo.s1 (v := .int w) (am_cat1 hG) hn h', by rw [am_s1_len]; exact hl.2⟩)
  · exact hF.elim
theorem am_w_stl {k : Fin 4} (hx : p.tables.exec = Jvm.exec) (hb : c.code = cc) (hG : ∀ t, am_nr (G.2.1 t)) (hdg : decode cc pc = .ok (.lstore_n k, 1)) (hk : k.val = la) (hn : la + 1 < lo.length) (hF : am_stl go (pc + 1) la lo st h) (K : am_K p l e R s m args below meth c Qm G nl cs ss go) (hR : am_R G h H) (hS : va_S (am_A G) s.heap H locs) (hl : am_l nl G lo ls) : W p l e R s m args below meth c H locs cs ss Qm (F0 m pc ls (st.map (am_c G))) := by
  unfold am_stl at hF
  split at hF
  · rename_i w r
    exact lv_lstore_n hx hb hdg hk hl.1.has hn rfl (fun ls' h' => K _ _ _ _ _ _ _ hF hR hS ⟨am_lo.s2 (v := .long w) (am_cat1 hG) hn h', by rw [am_s2_len]; exact hl.2⟩)
  · exact hF.elim
theorem am_w_stlw {k : Nat} (hx : p.tables.exec = Jvm.exec) (hb : c.code = cc) (hG : ∀ t, am_nr (G.2.1 t)) (hdg : decode cc pc = .ok (.lstore k, 2)) (hk : k = la) (hn : la + 1 < lo.length) (hF : am_stl go (pc + 2) la lo st h) (K : am_K p l e R s m args below meth c Qm G nl cs ss go) (hR : am_R G h H) (hS : va_S (am_A G) s.heap H locs) (hl : am_l nl G lo ls) : W p l e R s m args below meth c H locs cs ss Qm (F0 m pc ls (st.map (am_c G))) := by
  subst hk
  unfold am_stl at hF
  split at hF
  · rename_i w r
    exact lv_lstore hx hb hdg hl.1.has hn rfl (fun ls' h' => K _ _ _ _ _ _ _ hF hR hS ⟨am_lo.s2 (v := .long w) (am_cat1 hG) hn h', by rw [am_s2_len]; exact hl.2⟩)
  · exact hF.elim
theorem am_w_iinc {k : Nat} {n : Int} {v : Value} (hx : p.tables.exec = Jvm.exec) (hb : c.code = cc) (hG : ∀ t, am_nr (G.2.1 t)) (hdg : decode cc pc = .ok (.iinc k n, 3)) (hk : k = la) (hn : la < lo.length) (hv : v = .int (Int32.ofInt n)) (hF : match (generalizing := false) lo[la]?, v with
    | some (.int x), .int n => go (pc + 3) (am_s1 lo la (.int (x + n))) st h
    | _, _ => False) (K : am_K p l e R s m args below meth c Qm G nl cs ss go) (hR : am_R G h H) (hS : va_S (am_A G) s.heap H locs) (hl : am_l nl G lo ls) : W p l e R s m args below meth c H locs cs ss Qm (F0 m pc ls (st.map (am_c G))) := by
  subst hk
  subst hv
  cases h1 : lo[k]? with
  | none => rw [h1] at hF; exact hF.elim
  | some w =>
    rw [h1] at hF
    cases w with
    | int x =>
      obtain ⟨j, hj⟩ := List.getElem?_of_mem (am_al_mem (G := G) h1 (by simp [am_jk]))
      exact lv_iinc hx hb hdg hl.1.has hj rfl hn rfl (fun ls' h' => K _ _ _ _ _ _ _ hF hR hS ⟨am_lo.s1 (v := .int (x + Int32.ofInt n)) (am_cat1 hG) hn h', by rw [am_s1_len]; exact hl.2⟩)
    | _ => exact hF.elim
end AMS
