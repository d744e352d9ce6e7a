/-! one instruction, whichever it is -/
/-- a method's body stands in the real machine -/
def am_Y (G : am_V) (S : am_S) (y : Nat) (p : Program) (s : State) (m : MethodId) (args : Array Value) (meth : Method) (c : Code) : Prop :=
  p.tables.exec = Jvm.exec ∧ c.code = am_by y ∧ c.maxLocals = am_ml y ∧ s.vm.findClass (am_on (am_ow y)) = some m.cls ∧ (∀ w ∈ am_tg, w.before args s = true) ∧ (am_in y = 1 → meth.name = "<init>") ∧ va_K (am_D G) vwCl (am_ty G) s ∧ am_PF G S s s.heap
def am_ri : Option Value → Instr
  | none => .return_
  | some (.int _) => .ireturn
  | some (.long _) => .lreturn
  | some _ => .areturn
def am_inv (ins : Instr) (la : Nat) : Prop := (∃ i, ins = .invokestatic i ∧ (la = 1 ∨ la = 4 ∨ la = 7 ∨ la = 10 ∨ la = 11 ∨ la = 12)) ∨ (∃ i, ins = .invokevirtual i ∧ (la = 0 ∨ la = 3)) ∨ ∃ i, ins = .invokespecial i ∧ (la = 2 ∨ la = 5 ∨ la = 6)
theorem am_ck_spec {M : am_M} {pc nx la lb lc : Nat} {ins : Instr} {v : Value} {ps : List Nat} (h : am_ck M (pc, ins, nx, (la, lb, lc), v, ps) = true) : (am_tb ins = false → decode M.2.1 pc = .ok (ins, am_il ins) ∧ nx = pc + am_il ins) ∧ (am_tb ins = true → decode M.2.1 pc = .ok (ins, nx - pc)) ∧ (∀ q ∈ am_wl M.2.2.2.2.2.2.2.1 ins la lb lc v, am_wo q ∈ am_tg) ∧ am_cx M pc ins la lb lc v = true := by
  unfold am_ck at h
  simp only [Bool.and_eq_true] at h
  obtain ⟨⟨h1, h2⟩, h3⟩ := h
  refine ⟨fun q => ?_, fun q => ?_, fun q hq => ?_, h3⟩
  · rw [q] at h1
    exact of_decide_eq_true h1
  · rw [q] at h1
    exact of_decide_eq_true h1
  · rw [← of_decide_eq_true h2] at hq
    obtain ⟨i, -, rfl⟩ := List.mem_map.mp hq
    exact am_w_tg i
theorem am_i32 (x : Int32) : Int32.ofInt x.toInt = x := by simp
theorem am_i64 (x : Int64) : Int64.ofInt x.toInt = x := by simp
theorem am_fd_of {la lb lc : Nat} (hla : la < 13) (hlb : lb < 100) : am_fd (Int.ofNat (la * 100 + lb)).toNat = (((am_qc la).2.1 lb).1, ((am_qc la).2.1 lb).2.1, ((am_qc la).2.1 lb).2.2.1) := by
  have e0 : (Int.ofNat (la * 100 + lb)).toNat = la * 100 + lb := rfl
  have e1 : (la * 100 + lb) / 100 = la := by omega
  have e2 : (la * 100 + lb) % 100 = lb := by omega
  rw [e0]
  unfold am_fd
  rw [if_neg (by omega), if_neg (by omega), if_neg (by omega), if_neg (by omega), if_neg (by omega), if_neg (by omega), e1, e2]
theorem am_nf_le : ∀ c, c < 13 → am_nf c ≤ 100 := by decide +kernel
section AMW
variable {p : Program} {l : Launch} {e : Env} {R : Room} {s : State} {m : MethodId} {args : Array Value} {below : List Frame} {meth : Method} {c : Code} {Qm : State → Prop}
variable {G : am_V} {S : am_S} {y pc nx la lb lc cs ss : Nat} {lo st : List Value} {h : am_H} {H : Heap} {locs : List Loc} {ls : Array Slot} {go : am_go} {al : Nat → List Value → am_H → Prop} {cl : Nat → Nat → Nat → List Value → Prop} {rt : Option Value → Prop} {ins : Instr} {v : Value} {ps : List Nat}
theorem am_w_getf {i : Nat} (Y : am_Y G S y p s m args meth c) (hdg : decode (am_by y) pc = .ok (.getfield i, 3)) (hw : ∀ q ∈ am_wl (am_ow y) (.getfield i) la lb lc v, (am_wo q).before args s = true) (hc : lc = 5 ∨ lc = 6 ∨ (la < 13 ∧ lb < am_nf la ∧ am_ft la lb = lc)) (hF : match (generalizing := false) st with
    | .ref a :: r => if (h.2.1 a).1 = la + 1 ∧ lc < 4 then go (pc + 3) lo (am_gf h a lb lc :: r) h else False
    | .retAddr t :: r => if t = 2 then (if lc = 5 then go (pc + 3) lo (.retAddr 4 :: r) h else if lc = 6 then go (pc + 3) lo (.int 0 :: r) h else False) else False
    | _ => False) (K : am_K p l e R s m args below meth c Qm G (am_ml y) cs ss go) (hR : am_R G h H) (hS : va_S (am_A G) s.heap H locs) (hl : am_l (am_ml y) G lo ls) : W p l e R s m args below meth c H locs cs ss Qm (F0 m pc ls (st.map (am_c G))) := by
  obtain ⟨hx, hb, hml, hown, hts, hin, hK, hP⟩ := Y
  have hw1 := hw _ List.mem_cons_self
  split at hF
  · rename_i a r
    split at hF
    · rename_i hk
      rcases hc with q | q | ⟨h1, h2, h3⟩
      · exact absurd hk.2 (by omega)
      · exact absurd hk.2 (by omega)
      · rw [if_neg (by omega)] at hw1
        simp only [am_wo] at hw1
        rw [am_fd_of (lc := lc) h1 (Nat.lt_of_lt_of_le h2 (am_nf_le _ h1))] at hw1
        exact am_w_get hx hb hts hown hK hdg h1 h2 h3 hw1 hk.1 hF K hR hS hl
    · exact hF.elim
  · rename_i t r
    split at hF
    · rename_i ht
      subst ht
      obtain ⟨-, -, ⟨t, q, g1, g2, g3, g4, g5, g6, g7⟩, -⟩ := hP
      split at hF
      · rename_i h5
        subst h5
        have k := K _ _ _ _ _ _ _ hF hR hS hl
        rw [List.map_cons, show am_c G (.retAddr 4) = .ref q from g2] at k
        rw [List.map_cons, show am_c G (.retAddr 2) = .ref t from g1]
        exact vk_getf hx hb g6 hS hown hw1 (fun _ h => h) hdg k
      · split at hF
        · rename_i h6
          subst h6
          have k := K _ _ _ _ _ _ _ hF hR hS hl
          rw [List.map_cons, show am_c G (.retAddr 2) = .ref t from g1]
          exact vk_getf hx hb g5 hS hown hw1 (fun _ h => h) hdg k
        · exact hF.elim
    · exact hF.elim
  · exact hF.elim
theorem am_w_putf {i : Nat} (Y : am_Y G S y p s m args meth c) (hdg : decode (am_by y) pc = .ok (.putfield i, 3)) (hw : ∀ q ∈ am_wl (am_ow y) (.putfield i) la lb lc v, (am_wo q).before args s = true) (hc : la < 13 ∧ lb < am_nf la ∧ am_ft la lb = lc) (hf : (am_fin.getD la []).getD lb true = false ∨ (am_in y = 1 ∧ am_ow y = la)) (hF : match (generalizing := false) st with
    | .int x :: .ref a :: r => if (h.2.1 a).1 = la + 1 then (if lc = 0 ∨ (lc = 3 ∧ (x = 0 ∨ x = 1)) then go (pc + 3) lo r (am_pI h a lb x) else False) else False
    | .long x :: .ref a :: r => if (h.2.1 a).1 = la + 1 then (if lc = 1 then go (pc + 3) lo r (am_pL h a lb x) else False) else False
    | .ref x :: .ref a :: r => if (h.2.1 a).1 = la + 1 then (if lc = 2 then go (pc + 3) lo r (am_pR h a lb (some x)) else False) else False
    | .null :: .ref a :: r => if (h.2.1 a).1 = la + 1 then (if lc = 2 then go (pc + 3) lo r (am_pR h a lb none) else False) else False
    | _ => False) (K : am_K p l e R s m args below meth c Qm G (am_ml y) cs ss go) (hR : am_R G h H) (hS : va_S (am_A G) s.heap H locs) (hl : am_l (am_ml y) G lo ls) : W p l e R s m args below meth c H locs cs ss Qm (F0 m pc ls (st.map (am_c G))) := by
  obtain ⟨hx, hb, hml, hown, hts, hin, hK, hP⟩ := Y
  obtain ⟨h1, h2, h3⟩ := hc
  have hw1 := hw _ List.mem_cons_self
  simp only [am_wo] at hw1
  rw [am_fd_of (lc := lc) h1 (Nat.lt_of_lt_of_le h2 (am_nf_le _ h1))] at hw1
  obtain ⟨c1, c2, c3, c4, c5, c6, c7⟩ := am_cls la h1
  have hfk := c6 lb h2
  rw [h3] at hfk
  have hfin : ((am_qc la).2.1 lb).2.2.2 = true → meth.name = "<init>" ∧ ((am_qc la).2.1 lb).1 = am_on (am_ow y) := by
    intro q
    rw [← c7 lb h2] at q
    rcases hf with hf | ⟨hf1, hf2⟩
    · rw [hf] at q; cases q
    · refine ⟨hin hf1, ?_⟩
      rw [hf2]
      have hd : ∀ c, c < 13 → ∀ k, k < am_nf c → ((am_qc c).2.1 k).1 = am_on c := by decide +kernel
      exact hd la h1 lb h2
  split at hF
  · rename_i x a r
    split at hF
    · rename_i hk
      split at hF
      · rename_i hlc
        refine am_w_put (h := h) (h' := am_pI h a lb x) (v := .int x) hx hb hts hown hK hdg h1 h2 hw1 hfin (fun ty hp => ?_) rfl rfl (fun b hb j t => by rw [am_gf_pI, if_neg (fun q => hb q.1)]) (fun j => ?_) hk hF K hR hS hl
        · unfold am_fk at hfk
          rw [hp] at hfk
          rcases hlc with q | ⟨q, q2⟩
          · subst q
            cases ty <;> simp at hfk
            exact ⟨rfl, rfl⟩
          · subst q
            cases ty <;> simp at hfk
            rcases q2 with q2 | q2 <;> subst q2 <;> exact ⟨rfl, rfl⟩
        · rw [am_gf_pI]
          by_cases hj : j = lb
          · subst hj
            rw [h3]
            have : lc ≠ 1 ∧ lc ≠ 2 := by omega
            simp [this]
          · simp [hj]
      · exact hF.elim
    · exact hF.elim
  · rename_i x a r
    split at hF
    · rename_i hk
      split at hF
      · rename_i hlc
        subst hlc
        refine am_w_put (h := h) (h' := am_pL h a lb x) (v := .long x) hx hb hts hown hK hdg h1 h2 hw1 hfin (fun ty hp => ?_) rfl rfl (fun b hb j t => by rw [am_gf_pL, if_neg (fun q => hb q.1)]) (fun j => ?_) hk hF K hR hS hl
        · unfold am_fk at hfk
          rw [hp] at hfk
          cases ty <;> simp at hfk
          exact ⟨rfl, rfl⟩
        · rw [am_gf_pL]
          by_cases hj : j = lb
          · subst hj
            simp [h3]
          · simp [hj]
      · exact hF.elim
    · exact hF.elim
  · rename_i x a r
    split at hF
    · rename_i hk
      split at hF
      · rename_i hlc
        subst hlc
        refine am_w_put (h := h) (h' := am_pR h a lb (some x)) (v := .ref x) hx hb hts hown hK hdg h1 h2 hw1 hfin (fun ty hp => ?_) rfl rfl (fun b hb j t => by rw [am_gf_pR, if_neg (fun q => hb q.1)]) (fun j => ?_) hk hF K hR hS hl
        · unfold am_fk at hfk
          rw [hp] at hfk
          cases ty <;> simp at hfk <;> exact ⟨rfl, rfl⟩
        · rw [am_gf_pR]
          by_cases hj : j = lb
          · subst hj
            simp [h3, am_rv]
          · simp [hj]
      · exact hF.elim
    · exact hF.elim
  · rename_i a r
    split at hF
    · rename_i hk
      split at hF
      · rename_i hlc
        subst hlc
        refine am_w_put (h := h) (h' := am_pR h a lb none) (v := .null) hx hb hts hown hK hdg h1 h2 hw1 hfin (fun ty hp => ?_) rfl rfl (fun b hb j t => by rw [am_gf_pR, if_neg (fun q => hb q.1)]) (fun j => ?_) hk hF K hR hS hl
        · unfold am_fk at hfk
          rw [hp] at hfk
          cases ty <;> simp at hfk <;> exact ⟨rfl, rfl⟩
        · rw [am_gf_pR]
          by_cases hj : j = lb
          · subst hj
            simp [h3, am_rv]
          · simp [hj]
      · exact hF.elim
    · exact hF.elim
  · exact hF.elim
end AMW
