/-! one instruction: fields, rows, what is made -/
def am_dv : Nat → Value
  | 1 => .long 0
  | 2 => .null
  | _ => .int 0
/-- what is known of a class of ours -/
def am_clp (c : Nat) : Prop := vwCl[c]? = some (am_qc c) ∧ (am_qc c).2.2 = am_nf c ∧ (∀ w ∈ u_ws (am_qc c).1 (am_qc c).2.1 (am_qc c).2.2, w ∈ am_tg) ∧ (∀ a, a < am_nf c → ∀ b, b < am_nf c → a ≠ b → ((am_qc c).2.1 a).2.1 ≠ ((am_qc c).2.1 b).2.1) ∧ (∃ ty : Nat → FieldType, (∀ k, k < am_nf c → parseFieldDescriptor ((am_qc c).2.1 k).2.2.1 = some (ty k)) ∧ ∀ k, k < am_nf c → defaultValue (ty k) = am_dv (am_ft c k)) ∧ (∀ k, k < am_nf c → am_fk ((am_qc c).2.1 k) (am_ft c k) = true) ∧ ∀ k, k < am_nf c → (am_fin.getD c []).getD k true = ((am_qc c).2.1 k).2.2.2
theorem am_clp0 : am_clp 0 := ⟨rfl, rfl, fun w hw => am_tg_of (inX0 w hw) (am_lay_mv hw), nmX0, ⟨tyX0, tyX0_ok, by decide +kernel⟩, by decide +kernel, by decide +kernel⟩
theorem am_clp1 : am_clp 1 := ⟨rfl, rfl, fun w hw => am_tg_of (inX1 w hw) (am_lay_mv hw), nmX1, ⟨tyX1, tyX1_ok, by decide +kernel⟩, by decide +kernel, by decide +kernel⟩
theorem am_clp2 : am_clp 2 := ⟨rfl, rfl, fun w hw => am_tg_of (inX2 w hw) (am_lay_mv hw), nmX2, ⟨tyX2, tyX2_ok, by decide +kernel⟩, by decide +kernel, by decide +kernel⟩
theorem am_clp3 : am_clp 3 := ⟨rfl, rfl, fun w hw => am_tg_of (inX3 w hw) (am_lay_mv hw), nmX3, ⟨tyX3, tyX3_ok, by decide +kernel⟩, by decide +kernel, by decide +kernel⟩
theorem am_clp4 : am_clp 4 := ⟨rfl, rfl, fun w hw => am_tg_of (inX4 w hw) (am_lay_mv hw), nmX4, ⟨tyX4, tyX4_ok, by decide +kernel⟩, by decide +kernel, by decide +kernel⟩
theorem am_clp5 : am_clp 5 := ⟨rfl, rfl, fun w hw => am_tg_of (inX5 w hw) (am_lay_mv hw), nmX5, ⟨tyX5, tyX5_ok, by decide +kernel⟩, by decide +kernel, by decide +kernel⟩
theorem am_clp6 : am_clp 6 := ⟨rfl, rfl, fun w hw => am_tg_of (inX6 w hw) (am_lay_mv hw), nmX6, ⟨tyX6, tyX6_ok, by decide +kernel⟩, by decide +kernel, by decide +kernel⟩
theorem am_clp7 : am_clp 7 := ⟨rfl, rfl, fun w hw => am_tg_of (inX7 w hw) (am_lay_mv hw), nmX7, ⟨tyX7, tyX7_ok, by decide +kernel⟩, by decide +kernel, by decide +kernel⟩
theorem am_clp8 : am_clp 8 := ⟨rfl, rfl, fun w hw => am_tg_of (inX8 w hw) (am_lay_mv hw), nmX8, ⟨tyX8, tyX8_ok, by decide +kernel⟩, by decide +kernel, by decide +kernel⟩
theorem am_clp9 : am_clp 9 := ⟨rfl, rfl, fun w hw => am_tg_of (inX9 w hw) (am_lay_mv hw), nmX9, ⟨tyX9, tyX9_ok, by decide +kernel⟩, by decide +kernel, by decide +kernel⟩
theorem am_clp10 : am_clp 10 := ⟨rfl, rfl, fun w hw => am_tg_of (inX10 w hw) (am_lay_mv hw), nmX10, ⟨tyX10, tyX10_ok, by decide +kernel⟩, by decide +kernel, by decide +kernel⟩
theorem am_clp11 : am_clp 11 := ⟨rfl, rfl, fun w hw => am_tg_of (inX11 w hw) (am_lay_mv hw), nmX11, ⟨tyX11, tyX11_ok, by decide +kernel⟩, by decide +kernel, by decide +kernel⟩
theorem am_clp12 : am_clp 12 := ⟨rfl, rfl, fun w hw => am_tg_of (inX12 w hw) (am_lay_mv hw), nmX12, ⟨tyX12, tyX12_ok, by decide +kernel⟩, by decide +kernel, by decide +kernel⟩
theorem am_cls : ∀ c, c < 13 → am_clp c
  | 0, _ => am_clp0
  | 1, _ => am_clp1
  | 2, _ => am_clp2
  | 3, _ => am_clp3
  | 4, _ => am_clp4
  | 5, _ => am_clp5
  | 6, _ => am_clp6
  | 7, _ => am_clp7
  | 8, _ => am_clp8
  | 9, _ => am_clp9
  | 10, _ => am_clp10
  | 11, _ => am_clp11
  | 12, _ => am_clp12
  | c + 13, h => absurd h (by omega)
theorem am_gf_n {h : am_H} {kind len : Nat} (b j t : Nat) : am_gf (am_n h kind len) b j t = if b = h.1 then am_dv t else am_gf h b j t := by
  unfold am_gf am_n am_z am_dv
  split <;> simp <;> by_cases h1 : b = h.1 <;> simp [h1] <;> rfl
theorem am_R.new {G : am_V} {h : am_H} {H H1 : Heap} (hR : am_R G h H) {kind len : Nat} (hk : kind ≠ 0) (z : H1.size = H.size + 1) (oq : ∀ q : Nat, q < H.size → H1[q]? = H[q]?) (hn : am_ce G (am_n h kind len) H1 h.1) : am_R G (am_n h kind len) H1 := by
  refine ⟨by rw [z, hR.1]; rfl, fun b hb => ?_, fun b hb => ?_⟩
  · by_cases hab : b = h.1
    · rw [hab]; exact hn
    · have hb2 : b < h.1 := by
        have : b < h.1 + 1 := hb
        omega
      have h1 := hR.2.1 b hb2
      have e2 : (am_n h kind len).2.1 b = h.2.1 b := by simp [am_n, hab]
      unfold am_ce at h1 ⊢
      rw [e2]
      have hq : H1[G.1 + b]? = H[G.1 + b]? := oq _ (by rw [hR.1]; omega)
      split
      · rename_i hc
        rw [if_pos hc] at h1
        obtain ⟨r, r1, r2⟩ := h1
        exact ⟨r, r1, (r2.kept hq).to (fun k _ => by rw [am_gf_n, if_neg hab])⟩
      · rename_i hc
        rw [if_neg hc] at h1
        unfold am_rw at h1 ⊢
        rw [hq, h1]
        congr 2
        funext j
        rw [am_gf_n, if_neg hab]
  · by_cases hab : b = h.1
    · rw [hab]; exact Nat.lt_succ_self _
    · have e2 : (am_n h kind len).2.1 b = h.2.1 b := by simp [am_n, hab]
      rw [e2] at hb
      exact Nat.lt_succ_of_lt (hR.2.2 b hb)
section AMU
variable {p : Program} {l : Launch} {e : Env} {R : Room} {s : State} {m : MethodId} {args : Array Value} {below : List Frame} {meth : Method} {c : Code} {Qm : State → Prop} {cc : ByteArray}
variable {G : am_V} {S : am_S} {pc la lb lc cs ss : Nat} {lo st : List Value} {h h' : am_H} {H : Heap} {locs : List Loc} {ls : Array Slot} {go : am_go} {nl : Nat} {own : String}
theorem am_w_get {i a : Nat} {r : List Value} (hx : p.tables.exec = Jvm.exec) (hb : c.code = cc) (hts : ∀ w ∈ am_tg, w.before args s = true) (hown : s.vm.findClass own = some m.cls) (hK : va_K (am_D G) vwCl (am_ty G) s) (hdg : decode cc pc = .ok (.getfield i, 3)) (hla : la < 13) (hlb : lb < am_nf la) (hft : am_ft la lb = lc)
    (hlink : (Cond.fieldLink own i ((am_qc la).2.1 lb).1 ((am_qc la).2.1 lb).2.1 ((am_qc la).2.1 lb).2.2.1).before args s = true) (hk : (h.2.1 a).1 = la + 1) (hF : go (pc + 3) lo (am_gf h a lb lc :: r) h) (K : am_K p l e R s m args below meth c Qm G nl cs ss go) (hR : am_R G h H) (hS : va_S (am_A G) s.heap H locs) (hl : am_l nl G lo ls) : W p l e R s m args below meth c H locs cs ss Qm (F0 m pc ls (.ref (G.1 + a) :: r.map (am_c G))) := by
  obtain ⟨c1, c2, c3, -⟩ := am_cls la hla
  obtain ⟨q, h1, cell, q1, q2, q3, q4⟩ := hR.ob hk (by omega)
  have hr : q = am_qc la := Option.some.inj (h1.symm.trans c1)
  subst hr
  have hlb' : lb < (am_qc la).2.2 := by rw [c2]; exact hlb
  obtain ⟨hSl, hfc, kC, hkC, hkind⟩ := hK.1 la _ c1
  obtain ⟨cf, kf, fi, f, hi, hsl⟩ := hSl lb hlb'
  refine W.getf hx hb hown hlink hi (u_facts hfc hkC (u_lays hts c3 hlb') hi).1 q1 (by rw [q3]; exact fun h => by cases h) (v := am_c G (am_gf h a lb lc)) ?_ rfl rfl hdg (K _ _ _ _ _ _ _ hF hR hS hl)
  rw [hsl, q4 lb hlb']
  show some (am_c G (am_gf h a lb (am_ft la lb))) = _
  rw [hft]
theorem am_w_put {i a : Nat} {r : List Value} {v : Value} (hx : p.tables.exec = Jvm.exec) (hb : c.code = cc) (hts : ∀ w ∈ am_tg, w.before args s = true) (hown : s.vm.findClass own = some m.cls) (hK : va_K (am_D G) vwCl (am_ty G) s) (hdg : decode cc pc = .ok (.putfield i, 3)) (hla : la < 13) (hlb : lb < am_nf la)
    (hlink : (Cond.fieldLink own i ((am_qc la).2.1 lb).1 ((am_qc la).2.1 lb).2.1 ((am_qc la).2.1 lb).2.2.1).before args s = true) (hfin : ((am_qc la).2.1 lb).2.2.2 = true → meth.name = "<init>" ∧ ((am_qc la).2.1 lb).1 = own)
    (hty : ∀ ty, parseFieldDescriptor ((am_qc la).2.1 lb).2.2.1 = some ty → narrow ty (am_c G v) = am_c G v ∧ fits ty (am_c G v) = true)
    (e1 : h'.1 = h.1) (e2 : h'.2.1 = h.2.1) (e3 : ∀ b, b ≠ a → ∀ j t, am_gf h' b j t = am_gf h b j t) (e4 : ∀ j, am_gf h' a j (am_ft la j) = if j = lb then v else am_gf h a j (am_ft la j))
    (hk : (h.2.1 a).1 = la + 1) (hF : go (pc + 3) lo r h') (K : am_K p l e R s m args below meth c Qm G nl cs ss go) (hR : am_R G h H) (hS : va_S (am_A G) s.heap H locs) (hl : am_l nl G lo ls) : W p l e R s m args below meth c H locs cs ss Qm (F0 m pc ls (am_c G v :: .ref (G.1 + a) :: r.map (am_c G))) := by
  obtain ⟨c1, c2, c3, c4, ⟨ty0, c5, -⟩, -⟩ := am_cls la hla
  obtain ⟨q, h1, cell, q1, q2, q3, q4⟩ := hR.ob hk (by omega)
  have hr : q = am_qc la := Option.some.inj (h1.symm.trans c1)
  subst hr
  have hlb' : lb < (am_qc la).2.2 := by rw [c2]; exact hlb
  rw [← c2] at c4 c5
  have hap := va_apart (own := own) hts c3 ty0 c5 c4 hK c1
  obtain ⟨hSl, hfc, kC, hkC, hkind⟩ := hK.1 la _ c1
  obtain ⟨cf, kf, fi, f, hi, hsl⟩ := hSl lb hlb'
  have hlay := hts _ (c3 _ (u_in_lay hlb'))
  unfold u_lay at hlay
  have hst := (u_facts hfc hkC (u_lays hts c3 hlb') hi).1
  obtain ⟨hn, hfit⟩ := hty _ (c5 lb hlb')
  by_cases hf : ((am_qc la).2.1 lb).2.2.2 = true
  · rw [if_pos hf] at hlay
    obtain ⟨hin2, hdecl⟩ := hfin hf
    have hcf : m.cls = cf := by
      obtain ⟨_, _, c', _, _, _, -, -, hf', -, -, -, hown2, -⟩ := Cond.laysFinal_spec hlay
      have e1 : c' = cf := by have := hi.symm.trans hf'; simp at this; exact this.1.symm
      rw [hdecl] at hown2
      rw [← e1]; exact Option.some.inj (hown.symm.trans hown2)
    have h6 := u_fits hfc hkC hkind (Or.inr hlay) hi (c5 lb hlb') hn hfit
    refine W.putFinK hx hb hown hlink hi hst hcf hin2 (by rw [q2]; exact h6) q1 q3 (by rw [hsl]; exact k2_hasslot (q4 lb hlb')) rfl rfl hdg fun H' g1 g2 g3 => ?_
    rw [hsl] at g1
    exact K _ _ _ _ _ _ _ hF (hR.putOb hk (by omega) c1 hlb' hap q2 q3 q4 e1 e2 e3 e4 g1 g2 g3) (hS.put g2 g3 (Nat.le_add_right _ _)) hl
  · rw [if_neg hf] at hlay
    have h6 := u_store hfc hkC hkind hlay hi (c5 lb hlb') hn hfit
    refine W.putK hx hb (f := f) ⟨hown, hlink, ⟨_, _, _, hi⟩, hst⟩ (by rw [q2]; exact h6) q1 q3 (by rw [hsl]; exact k2_hasslot (q4 lb hlb')) rfl rfl hdg fun H' g1 g2 g3 => ?_
    rw [hsl] at g1
    exact K _ _ _ _ _ _ _ hF (hR.putOb hk (by omega) c1 hlb' hap q2 q3 q4 e1 e2 e3 e4 g1 g2 g3) (hS.put g2 g3 (Nat.le_add_right _ _)) hl
theorem am_w_iald {a : Nat} {i : Int32} {r : List Value} (hx : p.tables.exec = Jvm.exec) (hb : c.code = cc) (hK : va_K (am_D G) vwCl (am_ty G) s) (hdg : decode cc pc = .ok (.iaload, 1)) (hk : (h.2.1 a).1 = 20) (hin : ¬ (i < 0 ∨ (h.2.1 a).2 ≤ i.toNatClampNeg)) (hF : go (pc + 1) lo (.int (h.2.2.1 a i.toNatClampNeg) :: r) h) (K : am_K p l e R s m args below meth c Qm G nl cs ss go) (hR : am_R G h H) (hS : va_S (am_A G) s.heap H locs) (hl : am_l nl G lo ls) : W p l e R s m args below meth c H locs cs ss Qm (F0 m pc ls (.int i :: .ref (G.1 + a) :: r.map (am_c G))) :=
  W.iald hx hb (hR.rw hk (by omega)) ((hK.2 0 _ rfl).1 _ _) (fun q => by cases q) (by rw [arrV_size]; exact hin) (by rw [arrV_read _ _ (Nat.not_le.mp fun q => hin (Or.inr q))]; rfl) rfl rfl hdg (K _ _ _ _ _ _ _ hF hR hS hl)
theorem am_w_zald {a : Nat} {i : Int32} {r : List Value} (hx : p.tables.exec = Jvm.exec) (hb : c.code = cc) (hK : va_K (am_D G) vwCl (am_ty G) s) (hdg : decode cc pc = .ok (.baload, 1)) (hk : (h.2.1 a).1 = 22) (hin : ¬ (i < 0 ∨ (h.2.1 a).2 ≤ i.toNatClampNeg)) (hF : go (pc + 1) lo (.int (h.2.2.1 a i.toNatClampNeg) :: r) h) (K : am_K p l e R s m args below meth c Qm G nl cs ss go) (hR : am_R G h H) (hS : va_S (am_A G) s.heap H locs) (hl : am_l nl G lo ls) : W p l e R s m args below meth c H locs cs ss Qm (F0 m pc ls (.int i :: .ref (G.1 + a) :: r.map (am_c G))) :=
  W.zald hx hb (hR.rw hk (by omega)) ((hK.2 2 _ rfl).1 _ _) (fun q => by cases q) (by rw [arrV_size]; exact hin) (by rw [arrV_read _ _ (Nat.not_le.mp fun q => hin (Or.inr q))]; rfl) rfl rfl hdg (K _ _ _ _ _ _ _ hF hR hS hl)
theorem am_w_lald {a : Nat} {i : Int32} {r : List Value} (hx : p.tables.exec = Jvm.exec) (hb : c.code = cc) (hK : va_K (am_D G) vwCl (am_ty G) s) (hdg : decode cc pc = .ok (.laload, 1)) (hk : (h.2.1 a).1 = 21) (hin : ¬ (i < 0 ∨ (h.2.1 a).2 ≤ i.toNatClampNeg)) (hF : go (pc + 1) lo (.long (h.2.2.2.1 a i.toNatClampNeg) :: r) h) (K : am_K p l e R s m args below meth c Qm G nl cs ss go) (hR : am_R G h H) (hS : va_S (am_A G) s.heap H locs) (hl : am_l nl G lo ls) : W p l e R s m args below meth c H locs cs ss Qm (F0 m pc ls (.int i :: .ref (G.1 + a) :: r.map (am_c G))) :=
  W.lald hx hb (hR.rw hk (by omega)) ((hK.2 1 _ rfl).1 _ _) (fun q => by cases q) (by rw [arrV_size]; exact hin) (by rw [arrV_read _ _ (Nat.not_le.mp fun q => hin (Or.inr q))]; rfl) rfl rfl hdg (K _ _ _ _ _ _ _ hF hR hS hl)
theorem am_w_aald {a : Nat} {i : Int32} {r : List Value} (hx : p.tables.exec = Jvm.exec) (hb : c.code = cc) (hK : va_K (am_D G) vwCl (am_ty G) s) (hdg : decode cc pc = .ok (.aaload, 1)) (hk : (h.2.1 a).1 = 23 ∨ (h.2.1 a).1 = 24) (hin : ¬ (i < 0 ∨ (h.2.1 a).2 ≤ i.toNatClampNeg)) (hF : go (pc + 1) lo (am_rv (h.2.2.2.2 a i.toNatClampNeg) :: r) h) (K : am_K p l e R s m args below meth c Qm G nl cs ss go) (hR : am_R G h H) (hS : va_S (am_A G) s.heap H locs) (hl : am_l nl G lo ls) : W p l e R s m args below meth c H locs cs ss Qm (F0 m pc ls (.int i :: .ref (G.1 + a) :: r.map (am_c G))) := by
  have hlt := Nat.not_le.mp fun q => hin (Or.inr q)
  rcases hk with hk | hk
  · exact W.aald (ty := .object RX6) hx hb (hR.rw hk (by omega)) ((hK.2 3 _ rfl).1 _ _) rfl (fun q => by cases q) (by rw [arrV_size]; exact hin) (by rw [arrV_read _ _ hlt]; rfl) rfl rfl hdg (K _ _ _ _ _ _ _ hF hR hS hl)
  · exact W.aald (ty := .object RX10) hx hb (hR.rw hk (by omega)) ((hK.2 4 _ rfl).1 _ _) rfl (fun q => by cases q) (by rw [arrV_size]; exact hin) (by rw [arrV_read _ _ hlt]; rfl) rfl rfl hdg (K _ _ _ _ _ _ _ hF hR hS hl)
theorem am_w_iast {a : Nat} {i x : Int32} {r : List Value} (hx : p.tables.exec = Jvm.exec) (hb : c.code = cc) (hK : va_K (am_D G) vwCl (am_ty G) s) (hdg : decode cc pc = .ok (.iastore, 1)) (hk : (h.2.1 a).1 = 20) (hin : ¬ (i < 0 ∨ (h.2.1 a).2 ≤ i.toNatClampNeg)) (hF : go (pc + 1) lo r (am_pI h a i.toNatClampNeg x)) (K : am_K p l e R s m args below meth c Qm G nl cs ss go) (hR : am_R G h H) (hS : va_S (am_A G) s.heap H locs) (hl : am_l nl G lo ls) : W p l e R s m args below meth c H locs cs ss Qm (F0 m pc ls (.int x :: .int i :: .ref (G.1 + a) :: r.map (am_c G))) :=
  W.iast hx hb (hR.rw hk (by omega)) ((hK.2 0 _ rfl).1 _ _) (fun q => by cases q) (by rw [arrV_size]; exact hin) rfl rfl hdg fun H1 g1 g2 g3 => K _ _ _ _ _ _ _ hF (hR.putRow (v := .int x) hk (by omega) rfl rfl (fun b hb j t => by rw [am_gf_pI, if_neg (fun q => hb q.1)]) (fun j => by rw [am_gf_pI]; simp [am_kt]) g1 g2 g3) (hS.put g2 g3 (Nat.le_add_right _ _)) hl
theorem am_w_zast {a : Nat} {i x : Int32} {r : List Value} (hx : p.tables.exec = Jvm.exec) (hb : c.code = cc) (hK : va_K (am_D G) vwCl (am_ty G) s) (hdg : decode cc pc = .ok (.bastore, 1)) (hk : (h.2.1 a).1 = 22) (hin : ¬ (i < 0 ∨ (h.2.1 a).2 ≤ i.toNatClampNeg)) (hF : go (pc + 1) lo r (am_pI h a i.toNatClampNeg (vp_nar .boolean x))) (K : am_K p l e R s m args below meth c Qm G nl cs ss go) (hR : am_R G h H) (hS : va_S (am_A G) s.heap H locs) (hl : am_l nl G lo ls) : W p l e R s m args below meth c H locs cs ss Qm (F0 m pc ls (.int x :: .int i :: .ref (G.1 + a) :: r.map (am_c G))) :=
  W.zast hx hb (hR.rw hk (by omega)) ((hK.2 2 _ rfl).1 _ _) (fun q => by cases q) (by rw [arrV_size]; exact hin) rfl rfl hdg fun H1 g1 g2 g3 => K _ _ _ _ _ _ _ hF (hR.putRow (v := .int (vp_nar .boolean x)) hk (by omega) rfl rfl (fun b hb j t => by rw [am_gf_pI, if_neg (fun q => hb q.1)]) (fun j => by rw [am_gf_pI]; simp [am_kt]) g1 g2 g3) (hS.put g2 g3 (Nat.le_add_right _ _)) hl
theorem am_w_last {a : Nat} {i : Int32} {x : Int64} {r : List Value} (hx : p.tables.exec = Jvm.exec) (hb : c.code = cc) (hK : va_K (am_D G) vwCl (am_ty G) s) (hdg : decode cc pc = .ok (.lastore, 1)) (hk : (h.2.1 a).1 = 21) (hin : ¬ (i < 0 ∨ (h.2.1 a).2 ≤ i.toNatClampNeg)) (hF : go (pc + 1) lo r (am_pL h a i.toNatClampNeg x)) (K : am_K p l e R s m args below meth c Qm G nl cs ss go) (hR : am_R G h H) (hS : va_S (am_A G) s.heap H locs) (hl : am_l nl G lo ls) : W p l e R s m args below meth c H locs cs ss Qm (F0 m pc ls (.long x :: .int i :: .ref (G.1 + a) :: r.map (am_c G))) :=
  W.last hx hb (hR.rw hk (by omega)) ((hK.2 1 _ rfl).1 _ _) (fun q => by cases q) (by rw [arrV_size]; exact hin) rfl rfl hdg fun H1 g1 g2 g3 => K _ _ _ _ _ _ _ hF (hR.putRow (v := .long x) hk (by omega) rfl rfl (fun b hb j t => by rw [am_gf_pL, if_neg (fun q => hb q.1)]) (fun j => by rw [am_gf_pL]; simp [am_kt]) g1 g2 g3) (hS.put g2 g3 (Nat.le_add_right _ _)) hl
end AMU
