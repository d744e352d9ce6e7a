/-! calls, and the whole: the rest -/
theorem am_PF.same {G : am_V} {S : am_S} {u U : State} (h : am_PF G S u u.heap) (hv : U.vm = u.vm) (hh : U.heap = u.heap) : am_PF G S U U.heap := by
  obtain ⟨⟨t0, a1, a2, a3⟩, ⟨t1, b1, b2, b3⟩, ⟨t, q, c1, c2, c3, c4, c5, c6, c7⟩, ⟨t3, d1, d2⟩, e1, e2, e3⟩ := h
  have hA : u.vm.Alike U.vm := by rw [hv]; exact Vm.Alike.refl _
  rw [hh]
  exact ⟨⟨t0, a1, a2.moved hA, a3.moved hA⟩, ⟨t1, b1, b2.moved hA, b3.moved hA⟩, ⟨t, q, c1, c2, c3.same hv, c4.moved hA, c5.moved hA, c6.moved hA, c7.moved hA⟩, ⟨t3, d1, d2.moved hA⟩, e1.moved hA, e2.moved hA, e3⟩
theorem am_blind {G : am_V} {S : am_S} {h : am_H} {av : List Value} : FrameBlind (va_Pc av (am_RS G S h)) := by
  intro a U g mk q
  obtain ⟨q0, q1, q2, q3, q4⟩ := q
  exact ⟨q0, q1, va_K.moved (u := U) (U := U.calling g mk a) (Vm.Alike.refl U.vm) q2, q3.same rfl rfl, fun w hw => am_mv_moved (s := U) (U := U.calling g mk a) (List.mem_filter.mp hw).2 (State.WarmedH.refl U) (q4 w hw)⟩
theorem am_goodIn {z : Nat} : GoodIn (am_ws z) (am_ws z) := by
  intro w hw
  refine ⟨hw, ?_⟩
  rw [List.mem_singleton.mp hw]
  exact good_of_word rfl
theorem am_code_tg {z : Nat} (hj : am_jp (am_mm z)) : am_wc z ∈ am_tg := am_tg_of hj.2 rfl
section AMZ
variable {p : Program} {l : Launch} {e : Env} {R : Room} {s : State} {m : MethodId} {args : Array Value} {below : List Frame} {meth : Method} {c : Code} {Qm : State → Prop}
variable {G : am_V} {S : am_S} {y z d pc nx la lb lc cs ss : Nat} {lo st : List Value} {h : am_H} {H : Heap} {locs : List Loc} {ls : Array Slot} {Q : am_Q}
theorem am_cont {mcz msz : Nat} {Q' : am_Q} {a : Array Value} {rest st0 : List Value} (hr : va_Run p l e R s m args below meth c H locs cs ss mcz msz (F0 m pc ls st0) rest (am_Qc G Q' a) (am_A G)) (hS : va_S (am_A G) s.heap H locs)
    (kk : ∀ (r : Option Value) (h' : am_H) (H1 : Heap) (locs1 : List Loc), Q' r h' → am_R G h' H1 → va_S (am_A G) s.heap H1 locs1 → W p l e R s m args below meth c H1 locs1 (cs + mcz) (ss + msz) Qm (F0 m (pc + 3) ls ((r.map (am_c G)).toList ++ rest))) : W p l e R s m args below meth c H locs cs ss Qm (F0 m pc ls st0) := by
  intro T hT X
  obtain ⟨v, st₀, t, T', L, h0, X', hL, e1, e2, ⟨⟨r, h', hv, hq, hR'⟩, hz, hk⟩, st⟩ := hr T hT X
  cases hv
  rw [h0] at hz hk
  obtain ⟨t2, a1, b1⟩ := kk r h' T'.heap (locs ++ L) hq (by rw [e1]; exact hR') ⟨Nat.le_trans hS.1 (by rw [e1]; exact hz), fun q h1 h2 => by rw [e1, hk q (Nat.lt_of_lt_of_le h1 hS.1) h2]; exact hS.2.1 q h1 h2, fun q hq => by
    rcases List.mem_append.mp hq with h | h
    · exact hS.2.2 q h
    · exact hL q h⟩ T' rfl X'
  exact ⟨t2, st t2 a1, b1⟩
theorem am_w_copy {i a0 a1 : Nat} {sp dp n : Int32} {rest : List Value} {cc : ByteArray} {own : String} (hx : p.tables.exec = Jvm.exec) (hb : c.code = cc) (hml : c.maxLocals = ls.size) (hown : s.vm.findClass own = some m.cls) (hlink : (Cond.methodLink own i arraycopyName).before args s = true) (hnat : (Cond.native arraycopyName).before args s = true) (hstat : (Cond.static arraycopyName).before args s = true) (hini : (Cond.initialized "java/lang/System").before args s = true) (hK : va_K (am_D G) vwCl (am_ty G) s)
    (hk0 : (h.2.1 a0).1 = 20) (hk1 : (h.2.1 a1).1 = 20) (h1 : ¬ sp < 0) (h2 : ¬ dp < 0) (h3 : ¬ n < 0) (h4 : sp.toNatClampNeg + n.toNatClampNeg ≤ (h.2.1 a0).2) (h5 : dp.toNatClampNeg + n.toNatClampNeg ≤ (h.2.1 a1).2) (hframes : 1 ≤ R.frames) (hlocals : (rest.map fun v => v.category).sum + (nativeFrameWords "java/lang/System" "arraycopy" 5 + 11) ≤ R.locals) (hdg : decode cc pc = .ok (.invokestatic i, 3)) (hR : am_R G h H) (hS : va_S (am_A G) s.heap H locs)
    (kk : ∀ (H1 : Heap) (locs1 : List Loc), am_R G (am_cp h a0 a1 sp.toNatClampNeg dp.toNatClampNeg n.toNatClampNeg) H1 → va_S (am_A G) s.heap H1 locs1 → W p l e R s m args below meth c H1 locs1 cs ss Qm (F0 m (pc + 3) ls rest)) : W p l e R s m args below meth c H locs cs ss Qm (F0 m pc ls (.int n :: .int dp :: .ref (G.1 + a1) :: .int sp :: .ref (G.1 + a0) :: rest)) := by
  have nn : ∀ z : Int32, ¬ z < 0 → z.toInt = (z.toNatClampNeg : Int) := by
    intro z hz
    have hz0 : (0 : Int) ≤ z.toInt := by
      have := Int32.not_lt.mp hz
      simpa using Int32.le_iff_toInt_le.mp this
    show z.toInt = ((z.toInt.toNat : Nat) : Int)
    omega
  intro T hT X
  have hc0 : H[G.1 + a0]? = some (vp_cell (G.2.2.2.2 0) ((h.2.1 a0).2, .inl (h.2.2.1 a0))) := hR.rw hk0 (by omega)
  have hc1 : H[G.1 + a1]? = some (vp_cell (G.2.2.2.2 0) ((h.2.1 a1).2, .inl (h.2.2.1 a1))) := hR.rw hk1 (by omega)
  generalize h.2.1 a0 = q0 at hc0 hk0 h4
  generalize hq1 : h.2.1 a1 = q1 at hc1 hk1 h5
  obtain ⟨-, k0, hkk0, cm0, hkd0⟩ := (hK.2 0 _ rfl).1 q0.2 (fun j => .int (h.2.2.1 a0 j))
  obtain ⟨-, k1, hkk1, cm1, hkd1⟩ := (hK.2 0 _ rfl).1 q1.2 (fun j => .int (h.2.2.1 a1 j))
  obtain ⟨vm', X', step⟩ := X.arraycopy hx hown hlink hnat hstat hini (src := G.1 + a0) (dst := G.1 + a1) (cs := vp_cell (G.2.2.2.2 0) (q0.2, .inl (h.2.2.1 a0))) (cd := vp_cell (G.2.2.2.2 0) (q1.2, .inl (h.2.2.1 a1))) (srcPos := sp) (destPos := dp) (n := n) (by rw [hT]; exact hc0) (by rw [hT]; exact hc1)
    (fun _ h => by cases h) (fun _ h => by cases h) (fun h => by cases h) (fun h => by cases h) hkk0 hkk1 hkd0 hkd1 (by simp [refKind]) h1 h2 h3
    (by rw [nn sp h1, nn n h3]; show ¬ _ > ((arrV _ q0.2 (fun j => .int (h.2.2.1 a0 j))).slots.size : Int); rw [arrV_size]; omega)
    (by rw [nn dp h2, nn n h3]; show ¬ _ > ((arrV _ q1.2 (fun j => .int (h.2.2.1 a1 j))).slots.size : Int); rw [arrV_size]; omega)
    (fun vm₁ _ i hi => by
      have e : (vp_cell (G.2.2.2.2 0) (q0.2, .inl (h.2.2.1 a0))).slots.getD (sp.toNatClampNeg + i) .null = .int (h.2.2.1 a0 (sp.toNatClampNeg + i)) := by
        show (arrV _ q0.2 (fun j => .int (h.2.2.1 a0 j))).slots.getD _ _ = _
        rw [Array.getD_eq_getD_getElem?, arrV_read _ _ (by omega)]
        rfl
      refine ⟨?_, ?_⟩
      · rw [e]
        rfl
      · rw [e]
        exact trivial)
    (g := F0 m pc ls (.int n :: .int dp :: .ref (G.1 + a1) :: .int sp :: .ref (G.1 + a0) :: rest)) rfl (by rw [hml]) (rest := rest) rfl (by rw [hb]; exact hdg) hframes (by show 2 * 0 + _ + _ ≤ _; omega)
  have e1 : copied (vp_cell (G.2.2.2.2 0) (q0.2, .inl (h.2.2.1 a0))) (vp_cell (G.2.2.2.2 0) (q1.2, .inl (h.2.2.1 a1))) sp dp n = vp_cell (G.2.2.2.2 0) (q1.2, .inl (va_cpy (h.2.2.1 a0) (h.2.2.1 a1) sp.toNatClampNeg dp.toNatClampNeg n.toNatClampNeg)) := va_copied (fun z => .int z) _ _ _ _ h4
  rw [e1] at X' step
  have hl : G.1 + a1 < H.size := (Array.getElem?_eq_some_iff.mp hc1).1
  generalize hcell : vp_cell (G.2.2.2.2 0) (q1.2, .inl (va_cpy (h.2.2.1 a0) (h.2.2.1 a1) sp.toNatClampNeg dp.toNatClampNeg n.toNatClampNeg)) = cell at X' step
  have hheap : ((T.setVm vm').setCell (G.1 + a1) cell).heap = H.setIfInBounds (G.1 + a1) cell := by rw [← hT]; rfl
  have oq : ∀ q : Nat, q ≠ G.1 + a1 → (H.setIfInBounds (G.1 + a1) cell)[q]? = H[q]? := fun q hq => by simp [Array.getElem?_setIfInBounds, Ne.symm hq]
  obtain ⟨t, b1, b2⟩ := kk _ _ (hR.put (a := a1) (h' := am_cp h a0 a1 sp.toNatClampNeg dp.toNatClampNeg n.toNatClampNeg) (by simp) oq rfl rfl (fun b hb j t => by unfold am_gf am_cp; split <;> simp [hb]) (by
      unfold am_ce
      rw [show (am_cp h a0 a1 sp.toNatClampNeg dp.toNatClampNeg n.toNatClampNeg).2.1 a1 = q1 from hq1, hk1, if_neg (by omega)]
      unfold am_rw
      rw [show (H.setIfInBounds (G.1 + a1) cell)[G.1 + a1]? = some cell by simp [Array.getElem?_setIfInBounds, hl], ← hcell]
      rw [vp_cell_i]
      congr 2
      funext j
      show _ = am_c G (am_gf _ a1 j 0)
      simp [am_gf, am_cp, am_c])) ⟨by simp; exact hS.1, fun q g1 g2 => by
      rw [oq q (fun e => g2 (by rw [e]; exact Nat.le_add_right _ _))]
      exact hS.2.1 q g1 g2, fun q hq => by
      rcases List.mem_append.mp hq with h | h
      · exact hS.2.2 q h
      · obtain ⟨z, -, hz⟩ := List.mem_map.mp h
        rw [← hz]
        exact Nat.le_add_right _ _⟩ _ hheap X'
  exact ⟨t, step t b1, b2⟩
/-- a call of a method of ours: what the callee's way gives, taken up by the caller -/
theorem am_dow {as r st0 : List Value} (hdo : am_do (am_mc y) (am_ms y) (am_mc z) (am_ms z) (am_ml z) (am_en z as) (am_W l G S) y d cs ss (pc + 3) lo h Q z r) (hj : am_jp (am_mm z)) (hmc : am_mc y ≤ R.cells) (hms : am_ms y ≤ R.slots)
    (hrun : ∀ Q' : am_Q, Met l (am_nm z) (am_ws z) (am_rm z d) (va_Pc (as.map (am_c G)) (am_RS G S h)) (am_Qc G Q') (am_mc z) (am_ms z) (am_A G) → ((r.map (am_c G)).map fun v => v.category).sum ≤ 8 → cs + am_mc z ≤ R.cells ∧ ss + am_ms z ≤ R.slots → va_Run p l e R s m args below meth c H locs cs ss (am_mc z) (am_ms z) (F0 m pc ls st0) (r.map (am_c G)) (am_Qc G Q' (as.map (am_c G)).toArray) (am_A G))
    (hG : ∀ t, am_nr (G.2.1 t)) (hS : va_S (am_A G) s.heap H locs)
    (kX : ∀ (cs' ss' : Nat) (st' : List Value) (h' : am_H) (H1 : Heap) (locs1 : List Loc), am_W l G S y (d + 1) cs' ss' (pc + 3) lo st' h' Q → cs' ≤ am_mc y → ss' ≤ am_ms y → am_R G h' H1 → va_S (am_A G) s.heap H1 locs1 → W p l e R s m args below meth c H1 locs1 cs' ss' Qm (F0 m (pc + 3) ls (st'.map (am_c G)))) : W p l e R s m args below meth c H locs cs ss Qm (F0 m pc ls st0) := by
  unfold am_do at hdo
  split at hdo
  · rename_i hc
    obtain ⟨c1, c2, c3, c4⟩ := hc
    obtain ⟨Q', h1, h2⟩ := hdo
    have hcat : ((r.map (am_c G)).map fun v => v.category).sum ≤ 8 := by
      rw [List.map_map, show ((fun v => Value.category v) ∘ am_c G) = (fun v => Value.category v) from funext (fun v => am_cat_c G (am_cat1 hG) v)]
      exact c1
    refine am_cont (hrun Q' (am_met hj c4 h1) hcat ⟨Nat.le_trans c2 hmc, Nat.le_trans c3 hms⟩) hS (fun r' h' H1 locs1 hq hR' hS' => ?_)
    have k := kX _ _ _ _ H1 locs1 (h2 r' h' hq) c2 c3 hR' hS'
    rw [List.map_append] at k
    rw [show (r'.map (am_c G)).toList = r'.toList.map (am_c G) by cases r' <;> rfl]
    exact k
  · exact hdo.elim
end AMZ
