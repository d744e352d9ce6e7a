/-! one instruction: constants, the stack, numbers, branches -/
section AMT
variable {p : Program} {l : Launch} {e : Env} {R : Room} {s : State} {m : MethodId} {args : Array Value} {below : List Frame} {meth : Method} {c : Code} {Qm : State → Prop} {cc : ByteArray}
variable {G : am_V} {S : am_S} {pc la cs ss : Nat} {lo st : List Value} {h : am_H} {H : Heap} {locs : List Loc} {ls : Array Slot} {go : am_go} {nl : Nat}
theorem am_w_iadd (hx : p.tables.exec = Jvm.exec) (hb : c.code = cc) (hdg : decode cc pc = .ok (.iadd, 1)) (hF : am_b2 (fun x y => x + y) go (pc + 1) lo st h) (K : am_K p l e R s m args below meth c Qm G nl cs ss go) (hR : am_R G h H) (hS : va_S (am_A G) s.heap H locs) (hl : am_l nl G lo ls) : W p l e R s m args below meth c H locs cs ss Qm (F0 m pc ls (st.map (am_c G))) := by
  unfold am_b2 at hF
  split at hF
  · exact lv_iadd hx hb hdg (K _ _ _ _ _ _ _ hF hR hS hl)
  · exact hF.elim
theorem am_w_isub (hx : p.tables.exec = Jvm.exec) (hb : c.code = cc) (hdg : decode cc pc = .ok (.isub, 1)) (hF : am_b2 (fun x y => x - y) go (pc + 1) lo st h) (K : am_K p l e R s m args below meth c Qm G nl cs ss go) (hR : am_R G h H) (hS : va_S (am_A G) s.heap H locs) (hl : am_l nl G lo ls) : W p l e R s m args below meth c H locs cs ss Qm (F0 m pc ls (st.map (am_c G))) := by
  unfold am_b2 at hF
  split at hF
  · exact lv_isub hx hb hdg (K _ _ _ _ _ _ _ hF hR hS hl)
  · exact hF.elim
theorem am_w_imul (hx : p.tables.exec = Jvm.exec) (hb : c.code = cc) (hdg : decode cc pc = .ok (.imul, 1)) (hF : am_b2 (fun x y => x * y) go (pc + 1) lo st h) (K : am_K p l e R s m args below meth c Qm G nl cs ss go) (hR : am_R G h H) (hS : va_S (am_A G) s.heap H locs) (hl : am_l nl G lo ls) : W p l e R s m args below meth c H locs cs ss Qm (F0 m pc ls (st.map (am_c G))) := by
  unfold am_b2 at hF
  split at hF
  · exact lv_imul hx hb hdg (K _ _ _ _ _ _ _ hF hR hS hl)
  · exact hF.elim
theorem am_w_iand (hx : p.tables.exec = Jvm.exec) (hb : c.code = cc) (hdg : decode cc pc = .ok (.iand, 1)) (hF : am_b2 (fun x y => x &&& y) go (pc + 1) lo st h) (K : am_K p l e R s m args below meth c Qm G nl cs ss go) (hR : am_R G h H) (hS : va_S (am_A G) s.heap H locs) (hl : am_l nl G lo ls) : W p l e R s m args below meth c H locs cs ss Qm (F0 m pc ls (st.map (am_c G))) := by
  unfold am_b2 at hF
  split at hF
  · exact lv_iand hx hb hdg (K _ _ _ _ _ _ _ hF hR hS hl)
  · exact hF.elim
theorem am_w_ior (hx : p.tables.exec = Jvm.exec) (hb : c.code = cc) (hdg : decode cc pc = .ok (.ior, 1)) (hF : am_b2 (fun x y => x ||| y) go (pc + 1) lo st h) (K : am_K p l e R s m args below meth c Qm G nl cs ss go) (hR : am_R G h H) (hS : va_S (am_A G) s.heap H locs) (hl : am_l nl G lo ls) : W p l e R s m args below meth c H locs cs ss Qm (F0 m pc ls (st.map (am_c G))) := by
  unfold am_b2 at hF
  split at hF
  · exact lv_ior hx hb hdg (K _ _ _ _ _ _ _ hF hR hS hl)
  · exact hF.elim
theorem am_w_ixor (hx : p.tables.exec = Jvm.exec) (hb : c.code = cc) (hdg : decode cc pc = .ok (.ixor, 1)) (hF : am_b2 (fun x y => x ^^^ y) go (pc + 1) lo st h) (K : am_K p l e R s m args below meth c Qm G nl cs ss go) (hR : am_R G h H) (hS : va_S (am_A G) s.heap H locs) (hl : am_l nl G lo ls) : W p l e R s m args below meth c H locs cs ss Qm (F0 m pc ls (st.map (am_c G))) := by
  unfold am_b2 at hF
  split at hF
  · exact lv_ixor hx hb hdg (K _ _ _ _ _ _ _ hF hR hS hl)
  · exact hF.elim
theorem am_w_ishl (hx : p.tables.exec = Jvm.exec) (hb : c.code = cc) (hdg : decode cc pc = .ok (.ishl, 1)) (hF : am_b2 (fun x y => x <<< (y &&& 31)) go (pc + 1) lo st h) (K : am_K p l e R s m args below meth c Qm G nl cs ss go) (hR : am_R G h H) (hS : va_S (am_A G) s.heap H locs) (hl : am_l nl G lo ls) : W p l e R s m args below meth c H locs cs ss Qm (F0 m pc ls (st.map (am_c G))) := by
  unfold am_b2 at hF
  split at hF
  · exact lv_ishl hx hb hdg (K _ _ _ _ _ _ _ hF hR hS hl)
  · exact hF.elim
theorem am_w_ishr (hx : p.tables.exec = Jvm.exec) (hb : c.code = cc) (hdg : decode cc pc = .ok (.ishr, 1)) (hF : am_b2 (fun x y => x >>> (y &&& 31)) go (pc + 1) lo st h) (K : am_K p l e R s m args below meth c Qm G nl cs ss go) (hR : am_R G h H) (hS : va_S (am_A G) s.heap H locs) (hl : am_l nl G lo ls) : W p l e R s m args below meth c H locs cs ss Qm (F0 m pc ls (st.map (am_c G))) := by
  unfold am_b2 at hF
  split at hF
  · exact lv_ishr hx hb hdg (K _ _ _ _ _ _ _ hF hR hS hl)
  · exact hF.elim
theorem am_w_iushr (hx : p.tables.exec = Jvm.exec) (hb : c.code = cc) (hdg : decode cc pc = .ok (.iushr, 1)) (hF : am_b2 (fun x y => (x.toUInt32 >>> (y.toUInt32 &&& Int32.toUInt32 31)).toInt32) go (pc + 1) lo st h) (K : am_K p l e R s m args below meth c Qm G nl cs ss go) (hR : am_R G h H) (hS : va_S (am_A G) s.heap H locs) (hl : am_l nl G lo ls) : W p l e R s m args below meth c H locs cs ss Qm (F0 m pc ls (st.map (am_c G))) := by
  unfold am_b2 at hF
  split at hF
  · exact lv_iushr hx hb hdg rfl (K _ _ _ _ _ _ _ hF hR hS hl)
  · exact hF.elim
theorem am_w_ladd (hx : p.tables.exec = Jvm.exec) (hb : c.code = cc) (hdg : decode cc pc = .ok (.ladd, 1)) (hF : am_l2 (fun x y => x + y) go (pc + 1) lo st h) (K : am_K p l e R s m args below meth c Qm G nl cs ss go) (hR : am_R G h H) (hS : va_S (am_A G) s.heap H locs) (hl : am_l nl G lo ls) : W p l e R s m args below meth c H locs cs ss Qm (F0 m pc ls (st.map (am_c G))) := by
  unfold am_l2 at hF
  split at hF
  · exact lv_ladd hx hb hdg (K _ _ _ _ _ _ _ hF hR hS hl)
  · exact hF.elim
theorem am_w_lsub (hx : p.tables.exec = Jvm.exec) (hb : c.code = cc) (hdg : decode cc pc = .ok (.lsub, 1)) (hF : am_l2 (fun x y => x - y) go (pc + 1) lo st h) (K : am_K p l e R s m args below meth c Qm G nl cs ss go) (hR : am_R G h H) (hS : va_S (am_A G) s.heap H locs) (hl : am_l nl G lo ls) : W p l e R s m args below meth c H locs cs ss Qm (F0 m pc ls (st.map (am_c G))) := by
  unfold am_l2 at hF
  split at hF
  · exact lv_lsub hx hb hdg (K _ _ _ _ _ _ _ hF hR hS hl)
  · exact hF.elim
theorem am_w_lmul (hx : p.tables.exec = Jvm.exec) (hb : c.code = cc) (hdg : decode cc pc = .ok (.lmul, 1)) (hF : am_l2 (fun x y => x * y) go (pc + 1) lo st h) (K : am_K p l e R s m args below meth c Qm G nl cs ss go) (hR : am_R G h H) (hS : va_S (am_A G) s.heap H locs) (hl : am_l nl G lo ls) : W p l e R s m args below meth c H locs cs ss Qm (F0 m pc ls (st.map (am_c G))) := by
  unfold am_l2 at hF
  split at hF
  · exact lv_lmul hx hb hdg (K _ _ _ _ _ _ _ hF hR hS hl)
  · exact hF.elim
theorem am_w_idiv (hx : p.tables.exec = Jvm.exec) (hb : c.code = cc) (hdg : decode cc pc = .ok (.idiv, 1)) (hF : match st with
    | .int y :: .int x :: r => if y = 0 then False else go (pc + 1) lo (.int (x / y) :: r) h
    | _ => False) (K : am_K p l e R s m args below meth c Qm G nl cs ss go) (hR : am_R G h H) (hS : va_S (am_A G) s.heap H locs) (hl : am_l nl G lo ls) : W p l e R s m args below meth c H locs cs ss Qm (F0 m pc ls (st.map (am_c G))) := by
  split at hF
  · split at hF
    · exact hF.elim
    · rename_i hne
      exact lv_idiv hx hb hdg hne (K _ _ _ _ _ _ _ hF hR hS hl)
  · exact hF.elim
theorem am_w_irem (hx : p.tables.exec = Jvm.exec) (hb : c.code = cc) (hdg : decode cc pc = .ok (.irem, 1)) (hF : match st with
    | .int y :: .int x :: r => if y = 0 then False else go (pc + 1) lo (.int (x - x / y * y) :: r) h
    | _ => False) (K : am_K p l e R s m args below meth c Qm G nl cs ss go) (hR : am_R G h H) (hS : va_S (am_A G) s.heap H locs) (hl : am_l nl G lo ls) : W p l e R s m args below meth c H locs cs ss Qm (F0 m pc ls (st.map (am_c G))) := by
  split at hF
  · split at hF
    · exact hF.elim
    · rename_i hne
      exact lv_irem hx hb hdg hne (K _ _ _ _ _ _ _ hF hR hS hl)
  · exact hF.elim
theorem am_w_ldiv (hx : p.tables.exec = Jvm.exec) (hb : c.code = cc) (hdg : decode cc pc = .ok (.ldiv, 1)) (hF : match st with
    | .long y :: .long x :: r => if y = 0 then False else go (pc + 1) lo (.long (x / y) :: r) h
    | _ => False) (K : am_K p l e R s m args below meth c Qm G nl cs ss go) (hR : am_R G h H) (hS : va_S (am_A G) s.heap H locs) (hl : am_l nl G lo ls) : W p l e R s m args below meth c H locs cs ss Qm (F0 m pc ls (st.map (am_c G))) := by
  split at hF
  · split at hF
    · exact hF.elim
    · rename_i hne
      exact lv_ldiv hx hb hdg hne (K _ _ _ _ _ _ _ hF hR hS hl)
  · exact hF.elim
theorem am_w_lrem (hx : p.tables.exec = Jvm.exec) (hb : c.code = cc) (hdg : decode cc pc = .ok (.lrem, 1)) (hF : match st with
    | .long y :: .long x :: r => if y = 0 then False else go (pc + 1) lo (.long (x - x / y * y) :: r) h
    | _ => False) (K : am_K p l e R s m args below meth c Qm G nl cs ss go) (hR : am_R G h H) (hS : va_S (am_A G) s.heap H locs) (hl : am_l nl G lo ls) : W p l e R s m args below meth c H locs cs ss Qm (F0 m pc ls (st.map (am_c G))) := by
  split at hF
  · split at hF
    · exact hF.elim
    · rename_i hne
      exact lv_lrem hx hb hdg hne (K _ _ _ _ _ _ _ hF hR hS hl)
  · exact hF.elim
theorem am_w_ineg (hx : p.tables.exec = Jvm.exec) (hb : c.code = cc) (hdg : decode cc pc = .ok (.ineg, 1)) (hF : match st with
    | .int x :: r => go (pc + 1) lo (.int (-x) :: r) h
    | _ => False) (K : am_K p l e R s m args below meth c Qm G nl cs ss go) (hR : am_R G h H) (hS : va_S (am_A G) s.heap H locs) (hl : am_l nl G lo ls) : W p l e R s m args below meth c H locs cs ss Qm (F0 m pc ls (st.map (am_c G))) := by
  split at hF
  · exact lv_ineg hx hb hdg (K _ _ _ _ _ _ _ hF hR hS hl)
  · exact hF.elim
theorem am_w_lshl (hx : p.tables.exec = Jvm.exec) (hb : c.code = cc) (hdg : decode cc pc = .ok (.lshl, 1)) (hF : match st with
    | .int y :: .long x :: r => go (pc + 1) lo (.long (x <<< (y.toInt64 &&& 63)) :: r) h
    | _ => False) (K : am_K p l e R s m args below meth c Qm G nl cs ss go) (hR : am_R G h H) (hS : va_S (am_A G) s.heap H locs) (hl : am_l nl G lo ls) : W p l e R s m args below meth c H locs cs ss Qm (F0 m pc ls (st.map (am_c G))) := by
  split at hF
  · exact lv_lshl hx hb hdg rfl (K _ _ _ _ _ _ _ hF hR hS hl)
  · exact hF.elim
theorem am_w_lcmp (hx : p.tables.exec = Jvm.exec) (hb : c.code = cc) (hdg : decode cc pc = .ok (.lcmp, 1)) (hF : match st with
    | .long y :: .long x :: r => go (pc + 1) lo (.int (lg_cmp x y) :: r) h
    | _ => False) (K : am_K p l e R s m args below meth c Qm G nl cs ss go) (hR : am_R G h H) (hS : va_S (am_A G) s.heap H locs) (hl : am_l nl G lo ls) : W p l e R s m args below meth c H locs cs ss Qm (F0 m pc ls (st.map (am_c G))) := by
  split at hF
  · exact W.lcmp hx hb hdg (K _ _ _ _ _ _ _ hF hR hS hl)
  · exact hF.elim
theorem am_w_i2l (hx : p.tables.exec = Jvm.exec) (hb : c.code = cc) (hdg : decode cc pc = .ok (.i2l, 1)) (hF : match st with
    | .int x :: r => go (pc + 1) lo (.long x.toInt64 :: r) h
    | _ => False) (K : am_K p l e R s m args below meth c Qm G nl cs ss go) (hR : am_R G h H) (hS : va_S (am_A G) s.heap H locs) (hl : am_l nl G lo ls) : W p l e R s m args below meth c H locs cs ss Qm (F0 m pc ls (st.map (am_c G))) := by
  split at hF
  · exact lv_i2l hx hb hdg rfl (K _ _ _ _ _ _ _ hF hR hS hl)
  · exact hF.elim
theorem am_w_l2i (hx : p.tables.exec = Jvm.exec) (hb : c.code = cc) (hdg : decode cc pc = .ok (.l2i, 1)) (hF : match st with
    | .long x :: r => go (pc + 1) lo (.int x.toInt32 :: r) h
    | _ => False) (K : am_K p l e R s m args below meth c Qm G nl cs ss go) (hR : am_R G h H) (hS : va_S (am_A G) s.heap H locs) (hl : am_l nl G lo ls) : W p l e R s m args below meth c H locs cs ss Qm (F0 m pc ls (st.map (am_c G))) := by
  split at hF
  · exact lv_l2i hx hb hdg rfl (K _ _ _ _ _ _ _ hF hR hS hl)
  · exact hF.elim
theorem am_w_i2c (hx : p.tables.exec = Jvm.exec) (hb : c.code = cc) (hdg : decode cc pc = .ok (.i2c, 1)) (hF : match st with
    | .int x :: r => go (pc + 1) lo (.int (x.toUInt32 % 65536).toInt32 :: r) h
    | _ => False) (K : am_K p l e R s m args below meth c Qm G nl cs ss go) (hR : am_R G h H) (hS : va_S (am_A G) s.heap H locs) (hl : am_l nl G lo ls) : W p l e R s m args below meth c H locs cs ss Qm (F0 m pc ls (st.map (am_c G))) := by
  split at hF
  · exact lv_i2c hx hb hdg rfl (K _ _ _ _ _ _ _ hF hR hS hl)
  · exact hF.elim
theorem am_w_dup (hx : p.tables.exec = Jvm.exec) (hb : c.code = cc) (hG : ∀ t, am_nr (G.2.1 t)) (hdg : decode cc pc = .ok (.dup, 1)) (hF : match st with
    | w :: r => if w.category = 1 then go (pc + 1) lo (w :: w :: r) h else False
    | _ => False) (K : am_K p l e R s m args below meth c Qm G nl cs ss go) (hR : am_R G h H) (hS : va_S (am_A G) s.heap H locs) (hl : am_l nl G lo ls) : W p l e R s m args below meth c H locs cs ss Qm (F0 m pc ls (st.map (am_c G))) := by
  split at hF
  · split at hF
    · rename_i hc
      exact lv_dup hx hb hdg (by rw [am_cat_c G (am_cat1 hG)]; exact hc) (K _ _ _ _ _ _ _ hF hR hS hl)
    · exact hF.elim
  · exact hF.elim
theorem am_w_dup_x1 (hx : p.tables.exec = Jvm.exec) (hb : c.code = cc) (hG : ∀ t, am_nr (G.2.1 t)) (hdg : decode cc pc = .ok (.dup_x1, 1)) (hF : match st with
    | w :: u :: r => if w.category = 1 ∧ u.category = 1 then go (pc + 1) lo (w :: u :: w :: r) h else False
    | _ => False) (K : am_K p l e R s m args below meth c Qm G nl cs ss go) (hR : am_R G h H) (hS : va_S (am_A G) s.heap H locs) (hl : am_l nl G lo ls) : W p l e R s m args below meth c H locs cs ss Qm (F0 m pc ls (st.map (am_c G))) := by
  split at hF
  · split at hF
    · rename_i hc
      exact lv_dup_x1 hx hb hdg (by rw [am_cat_c G (am_cat1 hG)]; exact hc.1) (by rw [am_cat_c G (am_cat1 hG)]; exact hc.2) (K _ _ _ _ _ _ _ hF hR hS hl)
    · exact hF.elim
  · exact hF.elim
theorem am_w_dup2 (hx : p.tables.exec = Jvm.exec) (hb : c.code = cc) (hG : ∀ t, am_nr (G.2.1 t)) (hdg : decode cc pc = .ok (.dup2, 1)) (hF : match st with
    | w :: u :: r => if w.category = 1 ∧ u.category = 1 then go (pc + 1) lo (w :: u :: w :: u :: r) h else False
    | _ => False) (K : am_K p l e R s m args below meth c Qm G nl cs ss go) (hR : am_R G h H) (hS : va_S (am_A G) s.heap H locs) (hl : am_l nl G lo ls) : W p l e R s m args below meth c H locs cs ss Qm (F0 m pc ls (st.map (am_c G))) := by
  split at hF
  · split at hF
    · rename_i hc
      exact lv_dup2_11 hx hb hdg (by rw [am_cat_c G (am_cat1 hG)]; exact hc.1) (by rw [am_cat_c G (am_cat1 hG)]; exact hc.2) (K _ _ _ _ _ _ _ hF hR hS hl)
    · exact hF.elim
  · exact hF.elim
theorem am_w_pop (hx : p.tables.exec = Jvm.exec) (hb : c.code = cc) (hG : ∀ t, am_nr (G.2.1 t)) (hdg : decode cc pc = .ok (.pop, 1)) (hF : match st with
    | w :: r => if w.category = 1 then go (pc + 1) lo (r) h else False
    | _ => False) (K : am_K p l e R s m args below meth c Qm G nl cs ss go) (hR : am_R G h H) (hS : va_S (am_A G) s.heap H locs) (hl : am_l nl G lo ls) : W p l e R s m args below meth c H locs cs ss Qm (F0 m pc ls (st.map (am_c G))) := by
  split at hF
  · split at hF
    · rename_i hc
      exact lv_pop hx hb hdg (by rw [am_cat_c G (am_cat1 hG)]; exact hc) (K _ _ _ _ _ _ _ hF hR hS hl)
    · exact hF.elim
  · exact hF.elim
theorem am_w_if {off : Int} {cd : ClassFile.Cond} (hx : p.tables.exec = Jvm.exec) (hb : c.code = cc) (hdg : decode cc pc = .ok (.ifCond cd off, 3)) (ht : (pc : Int) + off = (la : Int)) (hF : match st with
    | .int x :: r => am_if cd x 0 (go la lo r h) (go (pc + 3) lo r h)
    | _ => False) (K : am_K p l e R s m args below meth c Qm G nl cs ss go) (hR : am_R G h H) (hS : va_S (am_A G) s.heap H locs) (hl : am_l nl G lo ls) : W p l e R s m args below meth c H locs cs ss Qm (F0 m pc ls (st.map (am_c G))) := by
  split at hF
  · rename_i x r
    have k1 := fun q => K la lo r h H locs ls q hR hS hl
    have k2 := fun q => K (pc + 3) lo r h H locs ls q hR hS hl
    cases cd <;> simp only [am_if] at hF
    · exact lv_if_eq hx hb hdg ht (fun q => k1 (by rw [if_pos q] at hF; exact hF)) (fun q => k2 (by rw [if_neg q] at hF; exact hF))
    · exact lv_if_ne hx hb hdg ht (fun q => k1 (by rw [if_neg q] at hF; exact hF)) (fun q => k2 (by rw [if_pos q] at hF; exact hF))
    · exact lv_if_lt hx hb hdg ht (fun q => k1 (by rw [if_pos q] at hF; exact hF)) (fun q => k2 (by rw [if_neg q] at hF; exact hF))
    · exact lv_if_ge hx hb hdg ht (fun q => k1 (by rw [if_pos q] at hF; exact hF)) (fun q => k2 (by rw [if_neg q] at hF; exact hF))
    · exact lv_if_gt hx hb hdg ht (fun q => k1 (by rw [if_pos q] at hF; exact hF)) (fun q => k2 (by rw [if_neg q] at hF; exact hF))
    · exact lv_if_le hx hb hdg ht (fun q => k1 (by rw [if_pos q] at hF; exact hF)) (fun q => k2 (by rw [if_neg q] at hF; exact hF))
  · exact hF.elim
theorem am_w_icmp {off : Int} {cd : ClassFile.Cond} (hx : p.tables.exec = Jvm.exec) (hb : c.code = cc) (hdg : decode cc pc = .ok (.if_icmp cd off, 3)) (ht : (pc : Int) + off = (la : Int)) (hF : match st with
    | .int y :: .int x :: r => am_if cd x y (go la lo r h) (go (pc + 3) lo r h)
    | _ => False) (K : am_K p l e R s m args below meth c Qm G nl cs ss go) (hR : am_R G h H) (hS : va_S (am_A G) s.heap H locs) (hl : am_l nl G lo ls) : W p l e R s m args below meth c H locs cs ss Qm (F0 m pc ls (st.map (am_c G))) := by
  split at hF
  · rename_i y x r
    have k1 := fun q => K la lo r h H locs ls q hR hS hl
    have k2 := fun q => K (pc + 3) lo r h H locs ls q hR hS hl
    cases cd <;> simp only [am_if] at hF
    · exact lv_icmp_eq hx hb hdg ht (fun q => k1 (by rw [if_pos q] at hF; exact hF)) (fun q => k2 (by rw [if_neg q] at hF; exact hF))
    · exact lv_icmp_ne hx hb hdg ht (fun q => k1 (by rw [if_neg q] at hF; exact hF)) (fun q => k2 (by rw [if_pos q] at hF; exact hF))
    · exact lv_icmp_lt hx hb hdg ht (fun q => k1 (by rw [if_pos q] at hF; exact hF)) (fun q => k2 (by rw [if_neg q] at hF; exact hF))
    · exact lv_icmp_ge hx hb hdg ht (fun q => k1 (by rw [if_pos q] at hF; exact hF)) (fun q => k2 (by rw [if_neg q] at hF; exact hF))
    · exact lv_icmp_gt hx hb hdg ht (fun q => k1 (by rw [if_pos q] at hF; exact hF)) (fun q => k2 (by rw [if_neg q] at hF; exact hF))
    · exact lv_icmp_le hx hb hdg ht (fun q => k1 (by rw [if_pos q] at hF; exact hF)) (fun q => k2 (by rw [if_neg q] at hF; exact hF))
  · exact hF.elim
theorem am_w_nonnull {off : Int} (hx : p.tables.exec = Jvm.exec) (hb : c.code = cc) (hdg : decode cc pc = .ok (.ifnonnull off, 3)) (ht : (pc : Int) + off = (la : Int)) (hF : match st with
    | .ref _ :: r => go la lo r h
    | .null :: r => go (pc + 3) lo r h
    | _ => False) (K : am_K p l e R s m args below meth c Qm G nl cs ss go) (hR : am_R G h H) (hS : va_S (am_A G) s.heap H locs) (hl : am_l nl G lo ls) : W p l e R s m args below meth c H locs cs ss Qm (F0 m pc ls (st.map (am_c G))) := by
  split at hF
  · exact lv_ifnonnull hx hb hdg ht (K _ _ _ _ _ _ _ hF hR hS hl)
  · exact lv_ifnonnullN hx hb hdg (K _ _ _ _ _ _ _ hF hR hS hl)
  · exact hF.elim
theorem am_w_table {df lw hi : Int} {offs : Array Int} {len : Nat} (hx : p.tables.exec = Jvm.exec) (hb : c.code = cc) (hdg : decode cc pc = .ok (.tableswitch df lw hi offs, len)) (hd : 0 ≤ (pc : Int) + df) (ho : ∀ o ∈ offs.toList, 0 ≤ (pc : Int) + o) (hF : match st with
    | .int x :: r => if x.toInt < lw ∨ hi < x.toInt then go ((pc : Int) + df).toNat lo r h else match offs[(x.toInt - lw).toNat]? with
      | some off => go ((pc : Int) + off).toNat lo r h
      | none => False
    | _ => False) (K : am_K p l e R s m args below meth c Qm G nl cs ss go) (hR : am_R G h H) (hS : va_S (am_A G) s.heap H locs) (hl : am_l nl G lo ls) : W p l e R s m args below meth c H locs cs ss Qm (F0 m pc ls (st.map (am_c G))) := by
  split at hF
  · rename_i x r
    split at hF
    · rename_i hc
      exact lv_tableOut hx hb hdg hc (by rw [Int.toNat_of_nonneg hd]) (K _ _ _ _ _ _ _ hF hR hS hl)
    · rename_i hc
      split at hF
      · rename_i off hoff
        have h1 : off ∈ offs.toList := by
          have := Array.mem_of_getElem? hoff
          exact Array.mem_toList_iff.mpr this
        exact lv_tableIn hx hb hdg (fun q => hc (Or.inl q)) (fun q => hc (Or.inr q)) hoff (by rw [Int.toNat_of_nonneg (ho _ h1)]) (K _ _ _ _ _ _ _ hF hR hS hl)
      · exact hF.elim
  · exact hF.elim
end AMT
