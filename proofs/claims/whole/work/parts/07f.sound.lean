/-! one instruction, whichever it is: the cases -/
section AMX
variable {p : Program} {l : Launch} {e : Env} {R : Room} {s : State} {m : MethodId} {args : Array Value} {below : List Frame} {meth : Method} {c : Code} {Qm : State → Prop}
variable {G : am_V} {S : am_S} {y pc nx la lb lc cs ss : Nat} {lo st : List Value} {h : am_H} {H : Heap} {locs : List Loc} {ls : Array Slot} {go : am_go} {al : Nat → List Value → am_H → Prop} {cl : Nat → Nat → Nat → List Value → Prop} {rt : Option Value → Prop} {ins : Instr} {v : Value} {ps : List Nat}
set_option maxHeartbeats 4000000 in
theorem am_C_W (Y : am_Y G S y p s m args meth c) (hck : am_ck (am_mm y) (pc, ins, nx, (la, lb, lc), v, ps) = true) (hF : am_C S go al cl rt pc ins nx la lb lc v lo st h) (K : am_K p l e R s m args below meth c Qm G (am_ml y) cs ss go) (Kr : ∀ n st h, al n st h → cs + 1 ≤ R.cells ∧ ss + n ≤ R.slots) (Ka : am_Ka p l e R s m args below meth c Qm G (am_ml y) cs ss nx lo al)
    (Kc : am_inv ins la → cl la lb lc st → W p l e R s m args below meth c H locs cs ss Qm (F0 m pc ls (st.map (am_c G)))) (Kt : ∀ r, rt r → r.toList = st → decode (am_by y) pc = .ok (am_ri r, 1) → W p l e R s m args below meth c H locs cs ss Qm (F0 m pc ls (st.map (am_c G)))) (hR : am_R G h H) (hS : va_S (am_A G) s.heap H locs) (hl : am_l (am_ml y) G lo ls) : W p l e R s m args below meth c H locs cs ss Qm (F0 m pc ls (st.map (am_c G))) := by
  obtain ⟨hx, hb, hml, hown, hts, hin, hK, hP⟩ := id Y
  have hG : ∀ t, am_nr (G.2.1 t) := hP.2.2.2.2.2.2
  obtain ⟨hd0, hdt, hw0, hcx⟩ := am_ck_spec hck
  have hw : ∀ q ∈ am_wl (am_ow y) ins la lb lc v, (am_wo q).before args s = true := fun q hq => hts _ (hw0 q hq)
  have hd : am_tb ins = false → decode (am_by y) pc = .ok (ins, am_il ins) ∧ True := fun q => ⟨(hd0 q).1, trivial⟩
  by_cases htb : am_tb ins = true
  · cases ins with
    | tableswitch df lw hi offs =>
      have hc1 : (decide (0 ≤ (pc : Int) + df) && offs.toList.all (fun o => decide (0 ≤ (pc : Int) + o))) = true := hcx
      simp only [Bool.and_eq_true, decide_eq_true_eq, List.all_eq_true] at hc1
      exact am_w_table hx hb (hdt rfl) hc1.1 hc1.2 hF K hR hS hl
    | _ => cases htb
  have hnx := (hd0 (by simpa using htb)).2
  subst hnx
  cases ins with
  | iadd => exact am_w_iadd hx hb (hd rfl).1 hF K hR hS hl
  | isub => exact am_w_isub hx hb (hd rfl).1 hF K hR hS hl
  | imul => exact am_w_imul hx hb (hd rfl).1 hF K hR hS hl
  | iand => exact am_w_iand hx hb (hd rfl).1 hF K hR hS hl
  | ior => exact am_w_ior hx hb (hd rfl).1 hF K hR hS hl
  | ixor => exact am_w_ixor hx hb (hd rfl).1 hF K hR hS hl
  | ishl => exact am_w_ishl hx hb (hd rfl).1 hF K hR hS hl
  | ishr => exact am_w_ishr hx hb (hd rfl).1 hF K hR hS hl
  | iushr => exact am_w_iushr hx hb (hd rfl).1 hF K hR hS hl
  | idiv => exact am_w_idiv hx hb (hd rfl).1 hF K hR hS hl
  | irem => exact am_w_irem hx hb (hd rfl).1 hF K hR hS hl
  | ineg => exact am_w_ineg hx hb (hd rfl).1 hF K hR hS hl
  | ladd => exact am_w_ladd hx hb (hd rfl).1 hF K hR hS hl
  | lsub => exact am_w_lsub hx hb (hd rfl).1 hF K hR hS hl
  | lmul => exact am_w_lmul hx hb (hd rfl).1 hF K hR hS hl
  | ldiv => exact am_w_ldiv hx hb (hd rfl).1 hF K hR hS hl
  | lrem => exact am_w_lrem hx hb (hd rfl).1 hF K hR hS hl
  | lshl => exact am_w_lshl hx hb (hd rfl).1 hF K hR hS hl
  | lcmp => exact am_w_lcmp hx hb (hd rfl).1 hF K hR hS hl
  | i2l => exact am_w_i2l hx hb (hd rfl).1 hF K hR hS hl
  | l2i => exact am_w_l2i hx hb (hd rfl).1 hF K hR hS hl
  | i2c => exact am_w_i2c hx hb (hd rfl).1 hF K hR hS hl
  | dup => exact am_w_dup hx hb hG (hd rfl).1 hF K hR hS hl
  | dup_x1 => exact am_w_dup_x1 hx hb hG (hd rfl).1 hF K hR hS hl
  | dup2 => exact am_w_dup2 hx hb hG (hd rfl).1 hF K hR hS hl
  | pop => exact am_w_pop hx hb hG (hd rfl).1 hF K hR hS hl
  | aload_n k => exact am_w_ldr hx hb hG (hd rfl).1 (of_decide_eq_true hcx).1 hF K hR hS hl
  | aload k => exact am_w_ldrw hx hb hG (hd rfl).1 (of_decide_eq_true hcx).1 hF K hR hS hl
  | iload_n k => exact am_w_ldi hx hb (hd rfl).1 (of_decide_eq_true hcx).1 hF K hR hS hl
  | iload k => exact am_w_ldiw hx hb (hd rfl).1 (of_decide_eq_true hcx).1 hF K hR hS hl
  | lload_n k => exact am_w_ldl hx hb (hd rfl).1 (of_decide_eq_true hcx).1 hF K hR hS hl
  | lload k => exact am_w_ldlw hx hb (hd rfl).1 (of_decide_eq_true hcx).1 hF K hR hS hl
  | astore_n k => exact am_w_str hx hb hG (hd rfl).1 (of_decide_eq_true hcx).1 (by rw [hl.2]; exact (of_decide_eq_true hcx).2) hF K hR hS hl
  | astore k => exact am_w_strw hx hb hG (hd rfl).1 (of_decide_eq_true hcx).1 (by rw [hl.2]; exact (of_decide_eq_true hcx).2) hF K hR hS hl
  | istore_n k => exact am_w_sti hx hb hG (hd rfl).1 (of_decide_eq_true hcx).1 (by rw [hl.2]; exact (of_decide_eq_true hcx).2) hF K hR hS hl
  | istore k => exact am_w_stiw hx hb hG (hd rfl).1 (of_decide_eq_true hcx).1 (by rw [hl.2]; exact (of_decide_eq_true hcx).2) hF K hR hS hl
  | lstore_n k => exact am_w_stl hx hb hG (hd rfl).1 (of_decide_eq_true hcx).1 (by rw [hl.2]; exact (of_decide_eq_true hcx).2) hF K hR hS hl
  | lstore k => exact am_w_stlw hx hb hG (hd rfl).1 (of_decide_eq_true hcx).1 (by rw [hl.2]; exact (of_decide_eq_true hcx).2) hF K hR hS hl
  | iinc k n => exact am_w_iinc hx hb hG (hd rfl).1 (of_decide_eq_true hcx).1 (by rw [hl.2]; exact (of_decide_eq_true hcx).2.1) (of_decide_eq_true hcx).2.2 hF K hR hS hl
  | iconst n =>
    have hv := of_decide_eq_true hcx
    subst hv
    exact lv_iconst hx hb (hd rfl).1 rfl (K _ _ _ _ _ _ _ hF hR hS hl)
  | bipush n =>
    have hv := of_decide_eq_true hcx
    subst hv
    exact lv_bipush hx hb (hd rfl).1 rfl (K _ _ _ _ _ _ _ hF hR hS hl)
  | sipush n =>
    have hv := of_decide_eq_true hcx
    subst hv
    exact lv_sipush hx hb (hd rfl).1 rfl (K _ _ _ _ _ _ _ hF hR hS hl)
  | lconst n =>
    have hv := of_decide_eq_true hcx
    subst hv
    exact lv_lconst hx hb (hd rfl).1 rfl (K _ _ _ _ _ _ _ hF hR hS hl)
  | ldc i =>
    cases v with
    | int x =>
      have hw1 : (Cond.constant (am_on (am_ow y)) i (Int32.ofInt x.toInt)).before args s = true := hw _ List.mem_cons_self
      rw [am_i32] at hw1
      exact lv_ldc hx hb hown hw1 (hd rfl).1 (K _ _ _ _ _ _ _ hF hR hS hl)
    | retAddr t =>
      have hc1 : t = 2 ∧ am_ow y = 7 ∧ i = 164 := of_decide_eq_true hcx
      obtain ⟨rfl, h7, rfl⟩ := hc1
      obtain ⟨-, -, ⟨t, q, g1, g2, g3, -⟩, -⟩ := hP
      have k := K _ _ _ _ _ _ _ hF hR hS hl
      rw [List.map_cons, show am_c G (.retAddr 2) = .ref t from g1] at k
      rw [h7] at hown
      exact va_ldcS hx hb hown g3 (hd rfl).1 k
    | _ => cases hcx
  | ldc_w i =>
    cases v with
    | int x =>
      have hw1 : (Cond.constant (am_on (am_ow y)) i (Int32.ofInt x.toInt)).before args s = true := hw _ List.mem_cons_self
      rw [am_i32] at hw1
      exact lv_ldcw hx hb hown hw1 (hd rfl).1 (K _ _ _ _ _ _ _ hF hR hS hl)
    | _ => cases hcx
  | ldc2_w i =>
    cases v with
    | long x =>
      have hw1 : (Cond.constantLong (am_on (am_ow y)) i (Int64.ofInt x.toInt)).before args s = true := hw _ List.mem_cons_self
      rw [am_i64] at hw1
      exact lv_ldc2 hx hb hown hw1 (hd rfl).1 (K _ _ _ _ _ _ _ hF hR hS hl)
    | _ => cases hcx
  | aconst_null => exact lv_null hx hb (hd rfl).1 (K _ _ _ _ _ _ _ hF hR hS hl)
  | getstatic i =>
    have hw1 := hw _ List.mem_cons_self
    have k := K _ _ _ _ _ _ _ hF hR hS hl
    rw [List.map_cons] at k
    obtain ⟨⟨t0, a1, a2, a3⟩, ⟨t1, b1, b2, b3⟩, -, -, e1, e2, -⟩ := hP
    rcases of_decide_eq_true hcx with ⟨rfl, rfl⟩ | ⟨rfl, rfl⟩ | ⟨rfl, rfl⟩ | ⟨rfl, rfl⟩
    · rw [show am_c G (.retAddr 0) = .ref t0 from a1] at k
      exact va_gets hx hb a2 hS hown hw1 (fun _ h => h) (hd rfl).1 k
    · rw [show am_c G (.retAddr 1) = .ref t1 from b1] at k
      exact va_gets hx hb b2 hS hown hw1 (fun _ h => h) (hd rfl).1 k
    · exact va_gets hx hb e1 hS hown hw1 (fun _ h => h) (hd rfl).1 k
    · exact va_gets hx hb e2 hS hown hw1 (fun _ h => h) (hd rfl).1 k
  | ifCond cd off => exact am_w_if hx hb (hd rfl).1 (of_decide_eq_true hcx) hF K hR hS hl
  | if_icmp cd off => exact am_w_icmp hx hb (hd rfl).1 (of_decide_eq_true hcx) hF K hR hS hl
  | goto off => exact lv_goto hx hb (hd rfl).1 (of_decide_eq_true hcx) (K _ _ _ _ _ _ _ hF hR hS hl)
  | ifnonnull off => exact am_w_nonnull hx hb (hd rfl).1 (of_decide_eq_true hcx) hF K hR hS hl
  | getfield i => exact am_w_getf Y (hd rfl).1 hw (of_decide_eq_true hcx) hF K hR hS hl
  | putfield i =>
    have hc1 : (decide (la < 13 ∧ lb < am_nf la ∧ am_ft la lb = lc) && (!((am_fin.getD la []).getD lb true) || decide (am_in y = 1 ∧ am_ow y = la))) = true := hcx
    rw [Bool.and_eq_true] at hc1
    refine am_w_putf Y (hd rfl).1 hw (of_decide_eq_true hc1.1) ?_ hF K hR hS hl
    rcases (Bool.or_eq_true _ _).mp hc1.2 with q | q
    · exact Or.inl (by simpa using q)
    · exact Or.inr (of_decide_eq_true q)
  | iaload =>
    change (match (generalizing := false) st with
    | .int i :: .ref a :: r => if (h.2.1 a).1 = 20 then (if i < 0 ∨ (h.2.1 a).2 ≤ i.toNatClampNeg then False else go (pc + 1) lo (.int (h.2.2.1 a i.toNatClampNeg) :: r) h) else False
    | .int i :: .retAddr t :: r => if t = 0 ∨ t = 1 ∨ t = 3 then (if i < 0 ∨ (am_pe S t).1 ≤ i.toNatClampNeg then False else go (pc + 1) lo (.int ((am_pe S t).2 i.toNatClampNeg) :: r) h) else False
    | _ => False) at hF
    split at hF
    · split at hF
      · rename_i hk
        split at hF
        · exact hF.elim
        · rename_i hi
          exact am_w_iald hx hb hK (hd rfl).1 hk hi hF K hR hS hl
      · exact hF.elim
    · rename_i i t r
      split at hF
      · rename_i ht
        split at hF
        · exact hF.elim
        · rename_i hi
          have k := K _ _ _ _ _ _ _ hF hR hS hl
          obtain ⟨⟨t0, a1, a2, a3⟩, ⟨t1, b1, b2, b3⟩, -, ⟨t3, d1, d2⟩, -⟩ := hP
          rw [List.map_cons, List.map_cons]
          rcases ht with rfl | rfl | rfl
          · rw [show am_c G (.retAddr 0) = .ref t0 from a1]
            exact va_ti hx hb a3 hS hi rfl (hd rfl).1 k
          · rw [show am_c G (.retAddr 1) = .ref t1 from b1]
            exact va_ti hx hb b3 hS hi rfl (hd rfl).1 k
          · rw [show am_c G (.retAddr 3) = .ref t3 from d1]
            exact va_ti hx hb d2 hS hi rfl (hd rfl).1 k
      · exact hF.elim
    · exact hF.elim
  | baload =>
    change (match (generalizing := false) st with
    | .int i :: .ref a :: r => if (h.2.1 a).1 = 22 then (if i < 0 ∨ (h.2.1 a).2 ≤ i.toNatClampNeg then False else go (pc + 1) lo (.int (h.2.2.1 a i.toNatClampNeg) :: r) h) else False
    | .int i :: .retAddr t :: r => if t = 4 then (if i < 0 ∨ (am_pe S 4).1 ≤ i.toNatClampNeg then False else go (pc + 1) lo (.int ((am_pe S 4).2 i.toNatClampNeg) :: r) h) else False
    | _ => False) at hF
    split at hF
    · split at hF
      · rename_i hk
        split at hF
        · exact hF.elim
        · rename_i hi
          exact am_w_zald hx hb hK (hd rfl).1 hk hi hF K hR hS hl
      · exact hF.elim
    · rename_i i t r
      split at hF
      · rename_i ht
        subst ht
        split at hF
        · exact hF.elim
        · rename_i hi
          have k := K _ _ _ _ _ _ _ hF hR hS hl
          obtain ⟨-, -, ⟨t, q, g1, g2, g3, g4, g5, g6, g7⟩, -⟩ := hP
          rw [List.map_cons, List.map_cons, show am_c G (.retAddr 4) = .ref q from g2]
          exact va_tb hx hb g7 hS hi rfl (hd rfl).1 k
      · exact hF.elim
    · exact hF.elim
  | laload =>
    change (match (generalizing := false) st with
    | .int i :: .ref a :: r => if (h.2.1 a).1 = 21 then (if i < 0 ∨ (h.2.1 a).2 ≤ i.toNatClampNeg then False else go (pc + 1) lo (.long (h.2.2.2.1 a i.toNatClampNeg) :: r) h) else False
    | _ => False) at hF
    split at hF
    · split at hF
      · rename_i hk
        split at hF
        · exact hF.elim
        · rename_i hi
          exact am_w_lald hx hb hK (hd rfl).1 hk hi hF K hR hS hl
      · exact hF.elim
    · exact hF.elim
  | aaload =>
    change (match (generalizing := false) st with
    | .int i :: .ref a :: r => if (h.2.1 a).1 = 23 ∨ (h.2.1 a).1 = 24 then (if i < 0 ∨ (h.2.1 a).2 ≤ i.toNatClampNeg then False else go (pc + 1) lo (am_rv (h.2.2.2.2 a i.toNatClampNeg) :: r) h) else False
    | _ => False) at hF
    split at hF
    · split at hF
      · rename_i hk
        split at hF
        · exact hF.elim
        · rename_i hi
          exact am_w_aald hx hb hK (hd rfl).1 hk hi hF K hR hS hl
      · exact hF.elim
    · exact hF.elim
  | iastore =>
    change (match (generalizing := false) st with
    | .int x :: .int i :: .ref a :: r => if (h.2.1 a).1 = 20 then (if i < 0 ∨ (h.2.1 a).2 ≤ i.toNatClampNeg then False else go (pc + 1) lo r (am_pI h a i.toNatClampNeg x)) else False
    | _ => False) at hF
    split at hF
    · split at hF
      · rename_i hk
        split at hF
        · exact hF.elim
        · rename_i hi
          exact am_w_iast hx hb hK (hd rfl).1 hk hi hF K hR hS hl
      · exact hF.elim
    · exact hF.elim
  | bastore =>
    change (match (generalizing := false) st with
    | .int x :: .int i :: .ref a :: r => if (h.2.1 a).1 = 22 then (if i < 0 ∨ (h.2.1 a).2 ≤ i.toNatClampNeg then False else go (pc + 1) lo r (am_pI h a i.toNatClampNeg (vp_nar .boolean x))) else False
    | _ => False) at hF
    split at hF
    · split at hF
      · rename_i hk
        split at hF
        · exact hF.elim
        · rename_i hi
          exact am_w_zast hx hb hK (hd rfl).1 hk hi hF K hR hS hl
      · exact hF.elim
    · exact hF.elim
  | lastore =>
    change (match (generalizing := false) st with
    | .long x :: .int i :: .ref a :: r => if (h.2.1 a).1 = 21 then (if i < 0 ∨ (h.2.1 a).2 ≤ i.toNatClampNeg then False else go (pc + 1) lo r (am_pL h a i.toNatClampNeg x)) else False
    | _ => False) at hF
    split at hF
    · split at hF
      · rename_i hk
        split at hF
        · exact hF.elim
        · rename_i hi
          exact am_w_last hx hb hK (hd rfl).1 hk hi hF K hR hS hl
      · exact hF.elim
    · exact hF.elim
  | aastore =>
    change (match (generalizing := false) st with
    | .ref x :: .int i :: .ref a :: r => if ((h.2.1 a).1 = 23 ∧ (h.2.1 x).1 = 7) ∨ ((h.2.1 a).1 = 24 ∧ (h.2.1 x).1 = 11) then (if i < 0 ∨ (h.2.1 a).2 ≤ i.toNatClampNeg then False else go (pc + 1) lo r (am_pR h a i.toNatClampNeg (some x))) else False
    | .null :: .int i :: .ref a :: r => if (h.2.1 a).1 = 23 ∨ (h.2.1 a).1 = 24 then (if i < 0 ∨ (h.2.1 a).2 ≤ i.toNatClampNeg then False else go (pc + 1) lo r (am_pR h a i.toNatClampNeg none)) else False
    | _ => False) at hF
    split at hF
    · split at hF
      · rename_i hk
        split at hF
        · exact hF.elim
        · rename_i hi
          rcases hk with ⟨k1, k2⟩ | ⟨k1, k2⟩
          · exact am_w_aast (ci := 6) (t0 := 3) hx hb hK (hd rfl).1 k1 (by decide) (by decide) k2 (by decide) rfl rfl hi hF K hR hS hl
          · exact am_w_aast (ci := 10) (t0 := 4) hx hb hK (hd rfl).1 k1 (by decide) (by decide) k2 (by decide) rfl rfl hi hF K hR hS hl
      · exact hF.elim
    · split at hF
      · rename_i hk
        split at hF
        · exact hF.elim
        · rename_i hi
          exact am_w_aastN hx hb hK (hd rfl).1 hk hi hF K hR hS hl
      · exact hF.elim
    · exact hF.elim
  | arraylength =>
    change (match (generalizing := false) st with
    | .ref a :: r => if 20 ≤ (h.2.1 a).1 ∧ (h.2.1 a).1 ≤ 24 then go (pc + 1) lo (.int (Int32.ofNat (h.2.1 a).2) :: r) h else False
    | .retAddr t :: r => if t = 3 ∨ t = 4 then go (pc + 1) lo (.int (Int32.ofNat (am_pe S t).1) :: r) h else False
    | _ => False) at hF
    split at hF
    · split at hF
      · rename_i hk
        exact am_w_alen hx hb hK (hd rfl).1 rfl hk.1 hk.2 hF K hR hS hl
      · exact hF.elim
    · split at hF
      · rename_i ht
        have k := K _ _ _ _ _ _ _ hF hR hS hl
        obtain ⟨-, -, ⟨t, q, g1, g2, g3, g4, g5, g6, g7⟩, ⟨t3, d1, d2⟩, -⟩ := hP
        rw [List.map_cons]
        rcases ht with rfl | rfl
        · rw [show am_c G (.retAddr 3) = .ref t3 from d1]
          exact va_tlen hx hb d2 hS rfl (hd rfl).1 k
        · rw [show am_c G (.retAddr 4) = .ref q from g2]
          exact va_tlen hx hb g7 hS rfl (hd rfl).1 k
      · exact hF.elim
    · exact hF.elim
  | new i =>
    have hc1 := of_decide_eq_true hcx
    exact am_w_new hx hb hts hown hK (hd rfl).1 hc1.1 hc1.2 (hw _ List.mem_cons_self) (hw _ (List.mem_cons_of_mem _ List.mem_cons_self)) (hw _ (List.mem_cons_of_mem _ (List.mem_cons_of_mem _ List.mem_cons_self))) hF (Kr _ _ _ hF) Ka hR hS hl
  | newarray t =>
    change (match (generalizing := false) st with
    | .int n :: r => if n < 0 ∨ 60000000 < n.toNatClampNeg then False else al n.toNatClampNeg (.ref h.1 :: r) (am_n h la n.toNatClampNeg)
    | _ => False) at hF
    have hw1 := hw _ List.mem_cons_self
    split at hF
    · split at hF
      · exact hF.elim
      · rename_i hi
        rcases of_decide_eq_true hcx with ⟨rfl, q⟩ | ⟨rfl, q⟩ | ⟨rfl, q⟩
        · exact am_w_newa (t0 := 0) hx hb hK (hd rfl).1 q (by decide) hw1 rfl rfl (by decide) id hi hF (Kr _ _ _ hF) Ka hR hS hl
        · exact am_w_newa (t0 := 1) hx hb hK (hd rfl).1 q (by decide) hw1 rfl rfl (by decide) id hi hF (Kr _ _ _ hF) Ka hR hS hl
        · exact am_w_newa (t0 := 2) hx hb hK (hd rfl).1 q (by decide) hw1 rfl rfl (by decide) id hi hF (Kr _ _ _ hF) Ka hR hS hl
    · exact hF.elim
  | anewarray i =>
    change (match (generalizing := false) st with
    | .int n :: r => if n < 0 ∨ 60000000 < n.toNatClampNeg then False else al n.toNatClampNeg (.ref h.1 :: r) (am_n h la n.toNatClampNeg)
    | _ => False) at hF
    have hw1 := hw _ List.mem_cons_self
    have hw2 := hw _ (List.mem_cons_of_mem _ List.mem_cons_self)
    split at hF
    · split at hF
      · exact hF.elim
      · rename_i hi
        rcases of_decide_eq_true hcx with rfl | rfl
        · exact am_w_anew (t0 := 3) (C := RX6) hx hb hown hK (hd rfl).1 (Or.inl rfl) hw1 hw2 rfl hi hF (Kr _ _ _ hF) Ka hR hS hl
        · exact am_w_anew (t0 := 4) (C := RX10) hx hb hown hK (hd rfl).1 (Or.inr rfl) hw1 hw2 rfl hi hF (Kr _ _ _ hF) Ka hR hS hl
    · exact hF.elim
  | invokestatic i =>
    change (if la = 1 ∨ la = 4 ∨ la = 7 ∨ la = 10 ∨ la = 11 ∨ la = 12 then cl la lb lc st else False) at hF
    split at hF
    · rename_i q
      exact Kc (Or.inl ⟨i, rfl, q⟩) hF
    · exact hF.elim
  | invokevirtual i =>
    change (if la = 0 ∨ la = 3 then cl la lb lc st else False) at hF
    split at hF
    · rename_i q
      exact Kc (Or.inr (Or.inl ⟨i, rfl, q⟩)) hF
    · exact hF.elim
  | invokespecial i =>
    change (if la = 2 ∨ la = 5 ∨ la = 6 then cl la lb lc st else False) at hF
    split at hF
    · rename_i q
      exact Kc (Or.inr (Or.inr ⟨i, rfl, q⟩)) hF
    · exact hF.elim
  | ireturn =>
    change (match (generalizing := false) st with
    | [.int x] => rt (some (.int x))
    | _ => False) at hF
    split at hF
    · exact Kt _ hF rfl (hd rfl).1
    · exact hF.elim
  | lreturn =>
    change (match (generalizing := false) st with
    | [.long x] => rt (some (.long x))
    | _ => False) at hF
    split at hF
    · exact Kt _ hF rfl (hd rfl).1
    · exact hF.elim
  | areturn =>
    change (match (generalizing := false) st with
    | [.ref x] => rt (some (.ref x))
    | [.null] => rt (some .null)
    | _ => False) at hF
    split at hF
    · exact Kt _ hF rfl (hd rfl).1
    · exact Kt _ hF rfl (hd rfl).1
    · exact hF.elim
  | return_ =>
    change (match (generalizing := false) st with
    | [] => rt none
    | _ => False) at hF
    split at hF
    · exact Kt _ hF rfl (hd rfl).1
    · exact hF.elim
  | tableswitch _ _ _ _ => exact absurd rfl htb
  | _ => exact (show False from hF).elim
end AMX
