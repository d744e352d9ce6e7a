/-! one instruction: rows of cells, what is made, what was there before -/
theorem am_c_dv {G : am_V} (t : Nat) : am_c G (am_dv t) = am_dv t := by
  unfold am_dv
  split <;> rfl
section AMV
variable {p : Program} {l : Launch} {e : Env} {R : Room} {s : State} {m : MethodId} {args : Array Value} {below : List Frame} {meth : Method} {c : Code} {Qm : State → Prop} {cc : ByteArray}
variable {G : am_V} {S : am_S} {pc la lb lc cs ss : Nat} {lo st : List Value} {h h' : am_H} {H : Heap} {locs : List Loc} {ls : Array Slot} {go : am_go} {nl : Nat} {own : String}
theorem am_w_aastN {a : Nat} {i : Int32} {r : List Value} (hx : p.tables.exec = Jvm.exec) (hb : c.code = cc) (hK : va_K (am_D G) vwCl (am_ty G) s) (hdg : decode cc pc = .ok (.aastore, 1)) (hk : (h.2.1 a).1 = 23 ∨ (h.2.1 a).1 = 24) (hin : ¬ (i < 0 ∨ (h.2.1 a).2 ≤ i.toNatClampNeg)) (hF : go (pc + 1) lo r (am_pR h a i.toNatClampNeg none)) (K : am_K p l e R s m args below meth c Qm G nl cs ss go) (hR : am_R G h H) (hS : va_S (am_A G) s.heap H locs) (hl : am_l nl G lo ls) : W p l e R s m args below meth c H locs cs ss Qm (F0 m pc ls (.null :: .int i :: .ref (G.1 + a) :: r.map (am_c G))) := by
  rcases hk with hk | hk
  · exact va_WaastN (C := RX6) hx hb (hR.rw hk (by omega)) ((hK.2 3 _ rfl).1 _ _) (fun q => by cases q) (by rw [arrV_size]; exact hin) rfl rfl hdg fun H1 g1 g2 g3 => K _ _ _ _ _ _ _ hF (hR.putRow (v := .null) hk (by omega) rfl rfl (fun b hb j t => by rw [am_gf_pR, if_neg (fun q => hb q.1)]) (fun j => by rw [am_gf_pR]; simp [am_kt, am_rv]) g1 g2 g3) (hS.put g2 g3 (Nat.le_add_right _ _)) hl
  · exact va_WaastN (C := RX10) hx hb (hR.rw hk (by omega)) ((hK.2 4 _ rfl).1 _ _) (fun q => by cases q) (by rw [arrV_size]; exact hin) rfl rfl hdg fun H1 g1 g2 g3 => K _ _ _ _ _ _ _ hF (hR.putRow (v := .null) hk (by omega) rfl rfl (fun b hb j t => by rw [am_gf_pR, if_neg (fun q => hb q.1)]) (fun j => by rw [am_gf_pR]; simp [am_kt, am_rv]) g1 g2 g3) (hS.put g2 g3 (Nat.le_add_right _ _)) hl
theorem am_w_aast {a x kind t0 ci : Nat} {C : String} {i : Int32} {r : List Value} (hx : p.tables.exec = Jvm.exec) (hb : c.code = cc) (hK : va_K (am_D G) vwCl (am_ty G) s) (hdg : decode cc pc = .ok (.aastore, 1)) (hk : (h.2.1 a).1 = kind) (hk20 : 20 ≤ kind) (hkt : am_kt kind = 2) (hkx : (h.2.1 x).1 = ci + 1) (hci : ci < 13) (hC : (am_qc ci).1 = C) (ht : (am_ty G)[t0]? = some (G.2.2.2.2 (kind - 20), .object C))
    (hin : ¬ (i < 0 ∨ (h.2.1 a).2 ≤ i.toNatClampNeg)) (hF : go (pc + 1) lo r (am_pR h a i.toNatClampNeg (some x))) (K : am_K p l e R s m args below meth c Qm G nl cs ss go) (hR : am_R G h H) (hS : va_S (am_A G) s.heap H locs) (hl : am_l nl G lo ls) : W p l e R s m args below meth c H locs cs ss Qm (F0 m pc ls (.ref (G.1 + x) :: .int i :: .ref (G.1 + a) :: r.map (am_c G))) := by
  subst hC
  have hlt := Nat.not_le.mp fun q => hin (Or.inr q)
  have h0 : ¬ i < 0 := fun q => hin (Or.inl q)
  obtain ⟨c1, -⟩ := am_cls ci hci
  obtain ⟨q, h1, cellV, g1, g2, g3, -⟩ := hR.ob hkx (by omega)
  have hcls := (hK.1 ci _ c1).2
  obtain ⟨kA, comp, k1, k2, k3, -⟩ := (hK.2 t0 _ ht).2
  have hcomp : comp = G.2.2.1 ci := Option.some.inj (k3.symm.trans hcls.1)
  subst hcomp
  obtain ⟨kC, hkC, -⟩ := hcls.2
  refine W.aast hx hb (hR.rw hk hk20) (fun q h => by cases h) (fun h => by cases h) k1 k2 rfl hkC ⟨h0, by rw [arrV_size]; exact hlt⟩ g1 (fun q h => by rw [g3] at h; cases h) (by rw [g2]; exact hkC) (by rw [g2]; exact va_assign hcls) rfl rfl hdg fun H1 e1 z oq => ?_
  exact K _ _ _ _ _ _ _ hF (hR.putRow (v := .ref x) hk hk20 rfl rfl (fun b hb j t => by rw [am_gf_pR, if_neg (fun q => hb q.1)]) (fun j => by rw [am_gf_pR, hkt]; simp [am_rv]) e1 z oq) (hS.put z oq (Nat.le_add_right _ _)) hl
theorem am_w_alen {a kind : Nat} {r : List Value} (hx : p.tables.exec = Jvm.exec) (hb : c.code = cc) (hK : va_K (am_D G) vwCl (am_ty G) s) (hdg : decode cc pc = .ok (.arraylength, 1)) (hk : (h.2.1 a).1 = kind) (hk1 : 20 ≤ kind) (hk2 : kind ≤ 24) (hF : go (pc + 1) lo (.int (Int32.ofNat (h.2.1 a).2) :: r) h) (K : am_K p l e R s m args below meth c Qm G nl cs ss go) (hR : am_R G h H) (hS : va_S (am_A G) s.heap H locs) (hl : am_l nl G lo ls) : W p l e R s m args below meth c H locs cs ss Qm (F0 m pc ls (.ref (G.1 + a) :: r.map (am_c G))) := by
  have hA : ∃ ty, ArrOfT s (G.2.2.2.2 (kind - 20)) ty := by
    rcases (show kind = 20 ∨ kind = 21 ∨ kind = 22 ∨ kind = 23 ∨ kind = 24 by omega) with q | q | q | q | q <;> subst q
    · exact ⟨_, (hK.2 0 _ rfl).1⟩
    · exact ⟨_, (hK.2 1 _ rfl).1⟩
    · exact ⟨_, (hK.2 2 _ rfl).1⟩
    · exact ⟨_, (hK.2 3 _ rfl).1⟩
    · exact ⟨_, (hK.2 4 _ rfl).1⟩
  obtain ⟨ty, hA⟩ := hA
  exact W.alen hx hb (hR.rw hk hk1) (hA _ _) (by rw [arrV_size]) rfl rfl hdg (K _ _ _ _ _ _ _ hF hR hS hl)
theorem am_S_new {H1 : Heap} (hS : va_S (am_A G) s.heap H locs) (z : H1.size = H.size + 1) (oq : ∀ q : Nat, q < H.size → H1[q]? = H[q]?) : va_S (am_A G) s.heap H1 locs := ⟨Nat.le_trans hS.1 (by omega), fun q h1 h2 => (oq q (Nat.lt_of_lt_of_le h1 hS.1)).trans (hS.2.1 q h1 h2), hS.2.2⟩
abbrev am_Ka (p : Program) (l : Launch) (e : Env) (R : Room) (s : State) (m : MethodId) (args : Array Value) (below : List Frame) (meth : Method) (c : Code) (Qm : State → Prop) (G : am_V) (nl cs ss nx : Nat) (lo : List Value) (al : Nat → List Value → am_H → Prop) : Prop :=
  ∀ (n : Nat) (st : List Value) (h : am_H) (H : Heap) (locs : List Loc) (ls : Array Slot), al n st h → am_R G h H → va_S (am_A G) s.heap H locs → am_l nl G lo ls → W p l e R s m args below meth c H locs (cs + 1) (ss + n) Qm (F0 m nx ls (st.map (am_c G)))
theorem am_w_new {i : Nat} {al : Nat → List Value → am_H → Prop} (hx : p.tables.exec = Jvm.exec) (hb : c.code = cc) (hts : ∀ w ∈ am_tg, w.before args s = true) (hown : s.vm.findClass own = some m.cls) (hK : va_K (am_D G) vwCl (am_ty G) s) (hdg : decode cc pc = .ok (.new i, 3)) (hla : la < 13) (hlb : lb = am_nf la) (w1 : (Cond.classLink own i (am_qc la).1).before args s = true) (w2 : (Cond.instantiable (am_qc la).1 (am_qc la).2.2).before args s = true) (w3 : (Cond.initialized (am_qc la).1).before args s = true)
    (hF : al lb (.ref h.1 :: st) (am_n h (la + 1) 0)) (hroom : cs + 1 ≤ R.cells ∧ ss + lb ≤ R.slots) (Ka : am_Ka p l e R s m args below meth c Qm G nl cs ss (pc + 3) lo al) (hR : am_R G h H) (hS : va_S (am_A G) s.heap H locs) (hl : am_l nl G lo ls) : W p l e R s m args below meth c H locs cs ss Qm (F0 m pc ls (st.map (am_c G))) := by
  obtain ⟨c1, c2, c3, c4, ⟨ty0, c5, c6⟩, -⟩ := am_cls la hla
  have hKn := hK.1 la _ c1
  rw [← c2] at hlb
  subst hlb
  refine W.newcK hx hb hown w1 w2 w3 rfl hdg hroom.1 hroom.2 hKn.2.1 hR.1 fun H1 kC hkC e1 z1 o1 => ?_
  have z2 : H1.size = H.size + 1 := by rw [z1, hR.1]
  have o2 : ∀ q : Nat, q < H.size → H1[q]? = H[q]? := fun q hq => o1 q (by rw [← hR.1]; exact hq)
  refine Ka _ _ _ _ _ _ hF (hR.new (by omega) z2 o2 ?_) (am_S_new hS z2 o2) hl
  have e2 : (am_n h (la + 1) 0).2.1 h.1 = (la + 1, 0) := by simp [am_n]
  unfold am_ce
  rw [e2, if_pos (show la + 1 < 20 by omega)]
  refine ⟨_, c1, (u_born ty0 hts c3 hKn hkC e1 (by rw [c2]; exact c5)).to (fun k hk => ?_)⟩
  have hk2 : k < am_nf la := by rw [← c2]; exact hk
  rw [am_gf_n, if_pos rfl, c6 k hk2]
  exact (am_c_dv _).symm
theorem am_w_newa {t : ArrayType} {n : Int32} {r : List Value} {al : Nat → List Value → am_H → Prop} {ty : FieldType} {t0 : Nat} (hx : p.tables.exec = Jvm.exec) (hb : c.code = cc) (hK : va_K (am_D G) vwCl (am_ty G) s) (hdg : decode cc pc = .ok (.newarray t, 2)) (hty : newarray.typeOf t = ty) (hla : 20 ≤ la ∧ la ≤ 22) (w1 : (Cond.arrayClass ty).before args s = true) (ht : (am_ty G)[t0]? = some (G.2.2.2.2 (la - 20), ty)) (hdv : defaultValue ty = am_dv (am_kt la)) (hby : componentBytes ty ≤ 8) (hcl : va_RA s (G.2.2.2.2 (la - 20)) ty → s.vm.findClass ("[" ++ ty.toString) = some (G.2.2.2.2 (la - 20)))
    (hn : ¬ (n < 0 ∨ 60000000 < n.toNatClampNeg)) (hF : al n.toNatClampNeg (.ref h.1 :: r) (am_n h la n.toNatClampNeg)) (hroom : cs + 1 ≤ R.cells ∧ ss + n.toNatClampNeg ≤ R.slots) (Ka : am_Ka p l e R s m args below meth c Qm G nl cs ss (pc + 2) lo al) (hR : am_R G h H) (hS : va_S (am_A G) s.heap H locs) (hl : am_l nl G lo ls) : W p l e R s m args below meth c H locs cs ss Qm (F0 m pc ls (.int n :: r.map (am_c G))) := by
  subst hty
  refine va_newaK hx hb w1 rfl hdg rfl (fun q => hn (Or.inl q)) rfl ?_ hroom.1 hroom.2 hR.1 fun H1 cA e1 z1 o1 hAr hfc => ?_
  · have h1 : n.toNatClampNeg ≤ 60000000 := Nat.le_of_not_lt (fun q => hn (Or.inr q))
    exact Nat.le_trans (Nat.mul_le_mul h1 hby) (by decide)
  · have z2 : H1.size = H.size + 1 := by rw [z1, hR.1]
    have o2 : ∀ q : Nat, q < H.size → H1[q]? = H[q]? := fun q hq => o1 q (by rw [← hR.1]; exact hq)
    have hcA : cA = G.2.2.2.2 (la - 20) := Option.some.inj (hfc.symm.trans (hcl (hK.2 t0 _ ht).2))
    subst hcA
    refine Ka _ _ _ _ _ _ hF (hR.new (by omega) z2 o2 ?_) (am_S_new hS z2 o2) hl
    have e2 : (am_n h la n.toNatClampNeg).2.1 h.1 = (la, n.toNatClampNeg) := by simp [am_n]
    unfold am_ce
    rw [e2, if_neg (show ¬ la < 20 by omega)]
    unfold am_rw
    rw [e1]
    congr 2
    funext j
    rw [am_gf_n, if_pos rfl, hdv]
    exact (am_c_dv _).symm
theorem am_w_anew {i : Nat} {n : Int32} {r : List Value} {al : Nat → List Value → am_H → Prop} {C : String} {t0 : Nat} (hx : p.tables.exec = Jvm.exec) (hb : c.code = cc) (hown : s.vm.findClass own = some m.cls) (hK : va_K (am_D G) vwCl (am_ty G) s) (hdg : decode cc pc = .ok (.anewarray i, 3)) (hla : la = 23 ∨ la = 24) (w1 : (Cond.classLink own i C).before args s = true) (w2 : (Cond.arrayOver (.object C)).before args s = true) (ht : (am_ty G)[t0]? = some (G.2.2.2.2 (la - 20), .object C))
    (hn : ¬ (n < 0 ∨ 60000000 < n.toNatClampNeg)) (hF : al n.toNatClampNeg (.ref h.1 :: r) (am_n h la n.toNatClampNeg)) (hroom : cs + 1 ≤ R.cells ∧ ss + n.toNatClampNeg ≤ R.slots) (Ka : am_Ka p l e R s m args below meth c Qm G nl cs ss (pc + 3) lo al) (hR : am_R G h H) (hS : va_S (am_A G) s.heap H locs) (hl : am_l nl G lo ls) : W p l e R s m args below meth c H locs cs ss Qm (F0 m pc ls (.int n :: r.map (am_c G))) := by
  refine W.anew hx hb hown w1 w2 rfl hdg rfl (fun q => hn (Or.inl q)) ?_ hroom.1 hroom.2 fun cA kA comp f1 f2 f3 f4 => ?_
  · have h1 : n.toNatClampNeg ≤ 60000000 := Nat.le_of_not_lt (fun q => hn (Or.inr q))
    exact Nat.le_trans (Nat.mul_le_mul h1 (Nat.le_refl 4)) (by decide)
  · obtain ⟨_, _, -, -, -, k4⟩ := (hK.2 t0 _ ht).2
    have hcA : cA = G.2.2.2.2 (la - 20) := Option.some.inj (f1.symm.trans k4)
    subst hcA
    generalize hH1 : H.push ({ cls := G.2.2.2.2 (la - 20), slots := Array.replicate n.toNatClampNeg .null, vm := .none } : Cell) = H1
    have z1 : H1.size = H.size + 1 := by rw [← hH1, Array.size_push]
    have e1 : H1[H.size]? = some (arrV (G.2.2.2.2 (la - 20)) n.toNatClampNeg (fun _ => .null)) := by rw [← hH1, Array.getElem?_push_size, ← arrV_new]
    have o1 : ∀ q : Nat, q < H.size → H1[q]? = H[q]? := fun q hq => by rw [← hH1, Array.getElem?_push, if_neg (Nat.ne_of_lt hq)]
    have k := Ka _ _ _ H1 locs ls hF (hR.new (by omega) z1 o1 (by
      have e2 : (am_n h la n.toNatClampNeg).2.1 h.1 = (la, n.toNatClampNeg) := by simp [am_n]
      unfold am_ce
      rw [e2, if_neg (show ¬ la < 20 by omega)]
      unfold am_rw
      rw [hR.1] at e1
      rw [e1]
      congr 2
      funext j
      rw [am_gf_n, if_pos rfl]
      rcases hla with q | q <;> subst q <;> rfl)) (am_S_new hS z1 o1) hl
    rw [List.map_cons, show am_c G (.ref h.1) = .ref H.size from by rw [hR.1]; rfl] at k
    exact k
end AMV
