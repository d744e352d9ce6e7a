/-! calls, and the whole: every call; the end -/
theorem am_mn_of {z : Nat} (hz : z < 304) : am_mn (Int.ofNat z).toNat = am_nm z := by
  show am_mn z = am_nm z
  unfold am_mn
  rw [if_neg (by omega), if_neg (by omega), if_neg (by omega), if_neg (by omega), if_neg (by omega)]
section AMQ
variable {p : Program} {l : Launch} {e : Env} {R : Room} {s : State} {m : MethodId} {args : Array Value} {below : List Frame} {meth : Method} {c : Code} {Qm : State → Prop}
variable {G : am_V} {S : am_S} {y d pc nx la lb lc cs ss : Nat} {lo st : List Value} {h : am_H} {H : Heap} {locs : List Loc} {ls : Array Slot} {Q : am_Q} {ins : Instr} {v : Value} {ps : List Nat}
theorem am_preS {as : List Value} (Y : am_Y G S y p s m args meth c) (hR : am_R G h H) (hS : va_S (am_A G) s.heap H locs) : ∀ U : State, U.heap = H → s.WarmedH U.vm → va_Pc (as.map (am_c G)) (am_RS G S h) (as.map (am_c G)).toArray U := fun U hU hW => ⟨rfl, by rw [hU]; exact hR, va_K.moved hW.alike Y.2.2.2.2.2.2.1, Y.2.2.2.2.2.2.2.moved hW (by rw [hU]; exact hS), fun w hw => am_mv_moved (List.mem_filter.mp hw).2 hW (Y.2.2.2.2.1 w hw)⟩
set_option maxHeartbeats 4000000 in
theorem am_call (Y : am_Y G S y p s m args meth c) (hck : am_ck (am_mm y) (pc, ins, nx, (la, lb, lc), v, ps) = true) (hinv : am_inv ins la) (hF : am_cl S (am_W l G S) y cs ss nx lo h Q d la lb lc st) (hd1 : d ≤ R.frames) (hd2 : 60 * d ≤ R.locals) (hmc : am_mc y ≤ R.cells) (hms : am_ms y ≤ R.slots) (hcs : cs ≤ am_mc y) (hss : ss ≤ am_ms y) (hR : am_R G h H) (hS : va_S (am_A G) s.heap H locs) (hl : am_l (am_ml y) G lo ls)
    (kX : ∀ (cs' ss' : Nat) (st' : List Value) (h' : am_H) (H1 : Heap) (locs1 : List Loc), am_W l G S y d cs' ss' nx lo st' h' Q → cs' ≤ am_mc y → ss' ≤ am_ms y → am_R G h' H1 → va_S (am_A G) s.heap H1 locs1 → W p l e R s m args below meth c H1 locs1 cs' ss' Qm (F0 m nx ls (st'.map (am_c G)))) : W p l e R s m args below meth c H locs cs ss Qm (F0 m pc ls (st.map (am_c G))) := by
  obtain ⟨hx, hb, hml, hown, hts, hin, hK, hP⟩ := id Y
  have hG : ∀ t, am_nr (G.2.1 t) := hP.2.2.2.2.2.2
  obtain ⟨hd0, -, hw0, hcx⟩ := am_ck_spec hck
  have hw : ∀ q ∈ am_wl (am_ow y) ins la lb lc v, (am_wo q).before args s = true := fun q hq => hts _ (hw0 q hq)
  have hsz : ls.size = am_ml y := hl.1.1.trans hl.2
  have hcatc : ∀ r : List Value, am_cat r ≤ 8 → ((r.map (am_c G)).map fun v => v.category).sum ≤ 8 := fun r hr => by
    rw [List.map_map, show ((fun v => Value.category v) ∘ am_c G) = (fun v => Value.category v) from funext (fun v => am_cat_c G (am_cat1 hG) v)]
    exact hr
  cases d with
  | zero => exact (show False from hF).elim
  | succ d =>
  have hroom : ∀ z, am_ml z ≤ 40 → (am_rm z d).frames + 1 ≤ R.frames ∧ 8 + (am_ml z + 11) + (am_rm z d).locals ≤ R.locals := fun z hz => ⟨hd1, by show 8 + (am_ml z + 11) + 60 * d ≤ R.locals; omega⟩
  rcases hinv with ⟨i, rfl, hla⟩ | ⟨i, rfl, hla⟩ | ⟨i, rfl, hla⟩
  · obtain ⟨hdg, hnx⟩ := hd0 rfl
    have hnx : nx = pc + 3 := hnx
    subst hnx
    rcases of_decide_eq_true hcx with rfl | rfl | rfl | rfl | ⟨hl2, hnp, hlb⟩
    · have hF : match (generalizing := false) st with
        | .int n :: .int dp :: .ref a1 :: .int sp :: .ref a0 :: r => if (h.2.1 a0).1 = 20 ∧ (h.2.1 a1).1 = 20 ∧ ¬ sp < 0 ∧ ¬ dp < 0 ∧ ¬ n < 0 ∧ sp.toNatClampNeg + n.toNatClampNeg ≤ (h.2.1 a0).2 ∧ dp.toNatClampNeg + n.toNatClampNeg ≤ (h.2.1 a1).2 ∧ am_cat r ≤ 8 then am_W l G S y (d + 1) cs ss (pc + 3) lo r (am_cp h a0 a1 sp.toNatClampNeg dp.toNatClampNeg n.toNatClampNeg) Q else False
        | _ => False := hF
      split at hF
      · split at hF
        · rename_i hc
          obtain ⟨c1, c2, c3, c4, c5, c6, c7, c8⟩ := hc
          have c8 := hcatc _ c8
          exact am_w_copy hx hb (hml.trans hsz.symm) hown (hw _ List.mem_cons_self) (hw _ (List.mem_cons_of_mem _ (List.mem_cons_of_mem _ List.mem_cons_self))) (hw _ (List.mem_cons_of_mem _ List.mem_cons_self)) (hw _ (List.mem_cons_of_mem _ (List.mem_cons_of_mem _ (List.mem_cons_of_mem _ List.mem_cons_self)))) hK c1 c2 c3 c4 c5 c6 c7 (by omega) (by rw [show nativeFrameWords "java/lang/System" "arraycopy" 5 = 7 from rfl]; omega) hdg hR hS (fun H1 locs1 g1 g2 => kX _ _ _ _ _ _ hF hcs hss g1 g2)
        · exact hF.elim
      · exact hF.elim
    · have hF : match (generalizing := false) st with
        | .int b :: .int a :: r => if am_cat r ≤ 8 then am_W l G S y (d + 1) cs ss (pc + 3) lo (.int (if b < a then b else a) :: r) h Q else False
        | _ => False := hF
      split at hF
      · split at hF
        · rename_i hc
          have c8 := hcatc _ hc
          exact va_mmin hx hb (hml.trans hsz.symm) hown (hw _ List.mem_cons_self) (hw _ (List.mem_cons_of_mem _ List.mem_cons_self)) (hw _ (List.mem_cons_of_mem _ (List.mem_cons_of_mem _ List.mem_cons_self))) (hw _ (List.mem_cons_of_mem _ (List.mem_cons_of_mem _ (List.mem_cons_of_mem _ List.mem_cons_self)))) (by omega) (by omega) (Nat.le_trans hcs hmc) (Nat.le_trans hss hms) hdg (kX _ _ _ _ _ _ hF hcs hss hR hS)
        · exact hF.elim
      · exact hF.elim
    · have hF : match (generalizing := false) st with
        | .int b :: .int a :: r => if am_cat r ≤ 8 then am_W l G S y (d + 1) cs ss (pc + 3) lo (.int (if a < b then b else a) :: r) h Q else False
        | _ => False := hF
      split at hF
      · split at hF
        · rename_i hc
          have c8 := hcatc _ hc
          exact va_mmax hx hb (hml.trans hsz.symm) hown (hw _ List.mem_cons_self) (hw _ (List.mem_cons_of_mem _ List.mem_cons_self)) (hw _ (List.mem_cons_of_mem _ (List.mem_cons_of_mem _ List.mem_cons_self))) (hw _ (List.mem_cons_of_mem _ (List.mem_cons_of_mem _ (List.mem_cons_of_mem _ List.mem_cons_self)))) (by omega) (by omega) (Nat.le_trans hcs hmc) (Nat.le_trans hss hms) hdg (kX _ _ _ _ _ _ hF hcs hss hR hS)
        · exact hF.elim
      · exact hF.elim
    · have hF : match (generalizing := false) st with
        | .int a :: r => if am_cat r ≤ 8 then am_W l G S y (d + 1) cs ss (pc + 3) lo (.int (if 0 ≤ a then a else 0 - a) :: r) h Q else False
        | _ => False := hF
      split at hF
      · split at hF
        · rename_i hc
          have c8 := hcatc _ hc
          exact va_mabs hx hb (hml.trans hsz.symm) hown (hw _ List.mem_cons_self) (hw _ (List.mem_cons_of_mem _ List.mem_cons_self)) (hw _ (List.mem_cons_of_mem _ (List.mem_cons_of_mem _ List.mem_cons_self))) (hw _ (List.mem_cons_of_mem _ (List.mem_cons_of_mem _ (List.mem_cons_of_mem _ List.mem_cons_self)))) (by omega) (by omega) (Nat.le_trans hcs hmc) (Nat.le_trans hss hms) hdg (kX _ _ _ _ _ _ hF hcs hss hR hS)
        · exact hF.elim
      · exact hF.elim
    · have hj := am_jz lb hlb
      obtain ⟨j1, j2, j3, j4, j5, j6, j7, j8⟩ := am_jb_spec hj.1
      have e1 := am_mn_of hlb
      have htz : ∀ w ∈ am_ws lb, w.before args s = true := fun w hw => by rw [List.mem_singleton.mp hw]; exact hts _ (am_code_tg hj)
      rcases hl2 with rfl | rfl
      · have hF : if (st.take lc).length = lc then am_do (am_mc y) (am_ms y) (am_mc lb) (am_ms lb) (am_ml lb) (am_en lb (st.take lc).reverse) (am_W l G S) y d cs ss (pc + 3) lo h Q lb (st.drop lc) else False := hF
        split at hF
        · rename_i hn
          have m0 : (Cond.methodLink (am_on (am_ow y)) i (am_mn (Int.ofNat lb).toNat)).before args s = true := hw _ List.mem_cons_self
          have m1 : (Cond.static (am_mn (Int.ofNat lb).toNat)).before args s = true := hw _ (List.mem_cons_of_mem _ List.mem_cons_self)
          have m2 : (Cond.initialized (am_mn (Int.ofNat lb).toNat).cls).before args s = true := hw _ (List.mem_cons_of_mem _ (List.mem_cons_of_mem _ List.mem_cons_self))
          rw [e1] at m0 m1 m2
          exact am_dow hF hj hmc hms (fun Q' hM hcat hf => va_runS (As := (st.take lc).reverse.map (am_c G)) (rest := (st.drop lc).map (am_c G)) ⟨hx, hb, hml, hown, htz⟩ hM ⟨callB_of (am_np lb) htz am_goodIn rfl rfl rfl m2 m0 ⟨j4, j5, j6⟩ (hroom lb j7), m1⟩ ⟨am_blind, am_preS Y hR hS⟩ rfl (by simp only [List.length_map, List.length_reverse]; rw [hn, hnp]) hsz (by rw [← List.map_reverse, List.reverse_reverse, ← List.map_append, List.take_append_drop]) (lv_room hcat) hdg hf) hG hS kX
        · exact hF.elim
      · have hF : if (st.take lc).length = lc then am_do (am_mc y) (am_ms y) (am_mc lb) (am_ms lb) (am_ml lb) (am_en lb (st.take lc).reverse) (am_W l G S) y d cs ss (pc + 3) lo h Q lb (st.drop lc) else False := hF
        split at hF
        · rename_i hn
          have m0 : (Cond.methodLinkNest (am_on (am_ow y)) i (am_mn (Int.ofNat lb).toNat) "KeyKeepers").before args s = true := hw _ List.mem_cons_self
          have m1 : (Cond.static (am_mn (Int.ofNat lb).toNat)).before args s = true := hw _ (List.mem_cons_of_mem _ List.mem_cons_self)
          have m2 : (Cond.initialized (am_mn (Int.ofNat lb).toNat).cls).before args s = true := hw _ (List.mem_cons_of_mem _ (List.mem_cons_of_mem _ List.mem_cons_self))
          rw [e1] at m0 m1 m2
          exact am_dow hF hj hmc hms (fun Q' hM hcat hf => va_runSN (As := (st.take lc).reverse.map (am_c G)) (rest := (st.drop lc).map (am_c G)) ⟨hx, hb, hml, hown, htz⟩ hM ⟨va_cnB (am_np lb) htz am_goodIn rfl rfl rfl (va_Nw.of rfl m0) m2 ⟨j4, j5, j6⟩ (hroom lb j7), m1, trivial⟩ ⟨am_blind, am_preS Y hR hS⟩ rfl (by simp only [List.length_map, List.length_reverse]; rw [hn, hnp]) hsz (by rw [← List.map_reverse, List.reverse_reverse, ← List.map_append, List.take_append_drop]) (lv_room hcat) hdg hf) hG hS kX
        · exact hF.elim
  · obtain ⟨hdg, hnx⟩ := hd0 rfl
    have hnx : nx = pc + 3 := hnx
    subst hnx
    obtain ⟨hl2, hnp, hkd, hlb⟩ := of_decide_eq_true hcx
    have hj := am_jz lb hlb
    obtain ⟨j1, j2, j3, j4, j5, j6, j7, j8⟩ := am_jb_spec hj.1
    have e1 := am_mn_of hlb
    have htz : ∀ w ∈ am_ws lb, w.before args s = true := fun w hw => by rw [List.mem_singleton.mp hw]; exact hts _ (am_code_tg hj)
    have m1 : (Cond.instanceMethod (am_mn (Int.ofNat lb).toNat)).before args s = true := hw _ (List.mem_cons_of_mem _ List.mem_cons_self)
    have m2 : (Cond.selects (am_mn (Int.ofNat lb).toNat).cls (am_mn (Int.ofNat lb).toNat) (am_mn (Int.ofNat lb).toNat)).before args s = true := hw _ (List.mem_cons_of_mem _ (List.mem_cons_of_mem _ List.mem_cons_self))
    have m3 : (Cond.initialized (am_mn (Int.ofNat lb).toNat).cls).before args s = true := hw _ (List.mem_cons_of_mem _ (List.mem_cons_of_mem _ (List.mem_cons_of_mem _ List.mem_cons_self)))
    have hF2 : match (generalizing := false) st.drop lc with
      | .ref b :: r => if (st.take lc).length = lc ∧ (h.2.1 b).1 = am_kd lb then am_do (am_mc y) (am_ms y) (am_mc lb) (am_ms lb) (am_ml lb) (am_en lb (.ref b :: (st.take lc).reverse)) (am_W l G S) y d cs ss (pc + 3) lo h Q lb r else False
      | .retAddr t :: r => if (st.take lc).length = lc ∧ t = 2 ∧ la = 0 ∧ am_kd lb = 15 then am_do (am_mc y) (am_ms y) (am_mc lb) (am_ms lb) (am_ml lb) (am_en lb (.retAddr t :: (st.take lc).reverse)) (am_W l G S) y d cs ss (pc + 3) lo h Q lb r else False
      | _ => False := by rcases hl2 with rfl | rfl <;> exact hF
    split at hF2
    · rename_i b r hdr
      split at hF2
      · rename_i hn
        obtain ⟨hn, hkb⟩ := hn
        have hst : st.map (am_c G) = ((st.take lc).reverse.map (am_c G)).reverse ++ .ref (G.1 + b) :: r.map (am_c G) := by
          rw [← List.map_reverse, List.reverse_reverse]
          show _ = (st.take lc).map (am_c G) ++ ((.ref b :: r : List Value).map (am_c G))
          rw [← List.map_append, ← hdr, List.take_append_drop]
        have hrecv : ∃ cellB : Cell, H[G.1 + b]? = some cellB ∧ cellB.vm.isStatics = false ∧ s.vm.findClass (am_nm lb).cls = some cellB.cls := by
          rcases j8 with q | ⟨q, -⟩ | ⟨q1, q2, q3⟩
          · exact absurd q hkd
          · have := hR.2.1 b (hR.2.2 b (by rw [hkb]; exact hkd))
            unfold am_ce at this
            rw [if_pos (by rw [hkb]; exact (by rw [show am_kd lb = 15 from q]; decide))] at this
            obtain ⟨r', h1, -⟩ := this
            rw [hkb, show am_kd lb = 15 from q] at h1
            cases h1
          · have q1 : 0 < am_kd lb := q1
            have q2 : am_kd lb ≤ 13 := q2
            have hk2 : (h.2.1 b).1 = (am_kd lb - 1) + 1 := by rw [hkb]; exact (Nat.sub_add_cancel q1).symm
            obtain ⟨c1, -⟩ := am_cls (am_kd lb - 1) (by omega)
            obtain ⟨r', h1, cell, g1, g2, g3, -⟩ := hR.ob hk2 (by omega)
            exact ⟨cell, g1, by rw [g3]; rfl, by rw [← show (am_qc (am_kd lb - 1)).1 = (am_nm lb).cls from q3, g2]; exact (hK.1 _ _ c1).2.1⟩
        rcases hl2 with rfl | rfl
        · have m0 : (Cond.methodLink (am_on (am_ow y)) i (am_mn (Int.ofNat lb).toNat)).before args s = true := hw _ List.mem_cons_self
          rw [e1] at m0 m1 m2 m3
          exact am_dow hF2 hj hmc hms (fun Q' hM hcat hf => va_runV (b := G.1 + b) (As := (st.take lc).reverse.map (am_c G)) (rest := r.map (am_c G)) ⟨hx, hb, hml, hown, htz⟩ hM ⟨callB_of (am_np lb) htz am_goodIn rfl rfl rfl m3 m0 ⟨j4, j5, j6⟩ (hroom lb j7), m1, m2⟩ ⟨am_blind, hrecv, am_preS (as := .ref b :: (st.take lc).reverse) Y hR hS⟩ rfl (by simp only [List.length_map, List.length_reverse]; rw [hn, hnp]) hsz hst (lv_room hcat) hdg hf) hG hS kX
        · have m0 : (Cond.methodLinkNest (am_on (am_ow y)) i (am_mn (Int.ofNat lb).toNat) "KeyKeepers").before args s = true := hw _ List.mem_cons_self
          rw [e1] at m0 m1 m2 m3
          exact am_dow hF2 hj hmc hms (fun Q' hM hcat hf => va_runVN (b := G.1 + b) (As := (st.take lc).reverse.map (am_c G)) (rest := r.map (am_c G)) ⟨hx, hb, hml, hown, htz⟩ hM ⟨va_cnB (am_np lb) htz am_goodIn rfl rfl rfl (va_Nw.of rfl m0) m3 ⟨j4, j5, j6⟩ (hroom lb j7), m1, m2⟩ ⟨am_blind, hrecv, am_preS (as := .ref b :: (st.take lc).reverse) Y hR hS⟩ rfl (by simp only [List.length_map, List.length_reverse]; rw [hn, hnp]) hsz hst (lv_room hcat) hdg hf) hG hS kX
      · exact hF2.elim
    · rename_i t r hdr
      split at hF2
      · rename_i hn
        obtain ⟨hn, rfl, rfl, hkd2⟩ := hn
        obtain ⟨-, -, ⟨t, q, g1, g2, g3, g4, -⟩, -⟩ := hP
        have hcl : (am_nm lb).cls = "java/lang/String" := by
          rcases j8 with q | ⟨-, q⟩ | ⟨q1, q2, q3⟩
          · exact absurd q hkd
          · exact q
          · exact absurd q2 (by rw [show (am_mm lb).2.2.2.2.2.2.1 = 15 from hkd2]; decide)
        have hst : st.map (am_c G) = ((st.take lc).reverse.map (am_c G)).reverse ++ .ref t :: r.map (am_c G) := by
          rw [← List.map_reverse, List.reverse_reverse, ← g1]
          show _ = (st.take lc).map (am_c G) ++ ((.retAddr 2 :: r : List Value).map (am_c G))
          rw [← List.map_append, ← hdr, List.take_append_drop]
        have m0 : (Cond.methodLink (am_on (am_ow y)) i (am_mn (Int.ofNat lb).toNat)).before args s = true := hw _ List.mem_cons_self
        rw [e1] at m0 m1 m2 m3
        have has : (.retAddr 2 :: (st.take lc).reverse : List Value).map (am_c G) = .ref t :: (st.take lc).reverse.map (am_c G) := by rw [List.map_cons, ← g1]; rfl
        refine am_dow hF2 hj hmc hms (fun Q' hM hcat hf => ?_) hG hS kX
        have hp := am_preS (as := .retAddr 2 :: (st.take lc).reverse) Y hR hS
        rw [has] at hM hp ⊢
        exact va_runV (b := t) (As := (st.take lc).reverse.map (am_c G)) (rest := r.map (am_c G)) ⟨hx, hb, hml, hown, htz⟩ hM ⟨callB_of (am_np lb) htz am_goodIn rfl rfl rfl m3 m0 ⟨j4, j5, j6⟩ (hroom lb j7), m1, m2⟩ ⟨am_blind, by rw [hcl]; exact va_Orecv g4 hS, hp⟩ rfl (by simp only [List.length_map, List.length_reverse]; rw [hn, hnp]) hsz hst (lv_room hcat) hdg hf
      · exact hF2.elim
    · exact hF2.elim
  · obtain ⟨hdg, hnx⟩ := hd0 rfl
    have hnx : nx = pc + 3 := hnx
    subst hnx
    rcases of_decide_eq_true hcx with rfl | ⟨hl2, hnp, hi1, hlb⟩
    · have hF : match (generalizing := false) st with
        | .ref _ :: r => if am_cat r ≤ 8 then am_W l G S y (d + 1) cs ss (pc + 3) lo r h Q else False
        | _ => False := hF
      split at hF
      · split at hF
        · rename_i hc
          have c8 := hcatc _ hc
          exact W.objInit hx hb hown (hw _ List.mem_cons_self) (hw _ (List.mem_cons_of_mem _ List.mem_cons_self)) (hw _ (List.mem_cons_of_mem _ (List.mem_cons_of_mem _ List.mem_cons_self))) rfl (hsz.trans hml.symm) rfl hdg (by omega) (by show 2 * 0 + _ + 12 ≤ _; omega) (kX _ _ _ _ _ _ hF hcs hss hR hS)
        · exact hF.elim
      · exact hF.elim
    · have hj := am_jz lb hlb
      obtain ⟨j1, j2, j3, j4, j5, j6, j7, j8⟩ := am_jb_spec hj.1
      obtain ⟨j31, j32⟩ := j3 hi1
      have e1 := am_mn_of hlb
      have htz : ∀ w ∈ am_ws lb, w.before args s = true := fun w hw => by rw [List.mem_singleton.mp hw]; exact hts _ (am_code_tg hj)
      have m1 : (Cond.instanceMethod (am_mn (Int.ofNat lb).toNat)).before args s = true := by rcases hl2 with rfl | rfl <;> exact hw _ (List.mem_cons_of_mem _ List.mem_cons_self)
      have m2 : (Cond.initialized (am_mn (Int.ofNat lb).toNat).cls).before args s = true := by rcases hl2 with rfl | rfl <;> exact hw _ (List.mem_cons_of_mem _ (List.mem_cons_of_mem _ List.mem_cons_self))
      have hws : am_ws lb = Cond.code (am_nm lb) (am_by lb) (am_ml lb) none :: [] := by
        unfold am_ws am_wc
        rw [show am_rt lb = none from j32]
      have hF2 : match (generalizing := false) st.drop lc with
        | .ref b :: r => if (st.take lc).length = lc ∧ (h.2.1 b).1 = am_kd lb then am_do (am_mc y) (am_ms y) (am_mc lb) (am_ms lb) (am_ml lb) (am_en lb (.ref b :: (st.take lc).reverse)) (am_W l G S) y d cs ss (pc + 3) lo h Q lb r else False
        | .retAddr t :: r => if (st.take lc).length = lc ∧ t = 2 ∧ la = 0 ∧ am_kd lb = 15 then am_do (am_mc y) (am_ms y) (am_mc lb) (am_ms lb) (am_ml lb) (am_en lb (.retAddr t :: (st.take lc).reverse)) (am_W l G S) y d cs ss (pc + 3) lo h Q lb r else False
        | _ => False := by rcases hl2 with rfl | rfl <;> exact hF
      split at hF2
      · rename_i b r hdr
        split at hF2
        · rename_i hn
          obtain ⟨hn, hkb⟩ := hn
          have hst : st.map (am_c G) = ((st.take lc).reverse.map (am_c G)).reverse ++ .ref (G.1 + b) :: r.map (am_c G) := by
            rw [← List.map_reverse, List.reverse_reverse]
            show _ = (st.take lc).map (am_c G) ++ ((.ref b :: r : List Value).map (am_c G))
            rw [← List.map_append, ← hdr, List.take_append_drop]
          rcases hl2 with rfl | rfl
          · have m0 : (Cond.methodLink (am_on (am_ow y)) i (am_mn (Int.ofNat lb).toNat)).before args s = true := hw _ List.mem_cons_self
            rw [e1] at m0 m1 m2
            exact am_dow hF2 hj hmc hms (fun Q' hM hcat hf => va_runI (b := G.1 + b) (As := (st.take lc).reverse.map (am_c G)) (rest := r.map (am_c G)) ⟨hx, hb, hml, hown, htz⟩ hM ⟨callB_of (am_np lb) htz am_goodIn hws rfl rfl m2 m0 ⟨j4, j5, j6⟩ (hroom lb j7), j31, m1⟩ ⟨am_blind, am_preS (as := .ref b :: (st.take lc).reverse) Y hR hS⟩ rfl (by simp only [List.length_map, List.length_reverse]; rw [hn, hnp]) hsz hst (lv_room hcat) hdg hf) hG hS kX
          · have m0 : (Cond.methodLinkNest (am_on (am_ow y)) i (am_mn (Int.ofNat lb).toNat) "KeyKeepers").before args s = true := hw _ List.mem_cons_self
            rw [e1] at m0 m1 m2
            exact am_dow hF2 hj hmc hms (fun Q' hM hcat hf => va_runIN (b := G.1 + b) (As := (st.take lc).reverse.map (am_c G)) (rest := r.map (am_c G)) ⟨hx, hb, hml, hown, htz⟩ hM ⟨va_cnB (am_np lb) htz am_goodIn hws rfl rfl (va_Nw.of rfl m0) m2 ⟨j4, j5, j6⟩ (hroom lb j7), j31, m1⟩ ⟨am_blind, am_preS (as := .ref b :: (st.take lc).reverse) Y hR hS⟩ rfl (by simp only [List.length_map, List.length_reverse]; rw [hn, hnp]) hsz hst (lv_room hcat) hdg hf) hG hS kX
        · exact hF2.elim
      · split at hF2
        · rename_i hn
          exact absurd hn.2.2.1 (by omega)
        · exact hF2.elim
      · exact hF2.elim
end AMQ
/-- THE REAL MACHINE DOES WHAT THE SMALL ONE DOES -/
theorem am_sound (l : Launch) (G : am_V) {S : am_S} {y d cs ss pc : Nat} {lo st : List Value} {h : am_H} {Q : am_Q} (hE : am_E S y d cs ss pc lo st h Q) : am_W l G S y d cs ss pc lo st h Q := by
  refine hE (am_W l G S) ?_
  intro y d cs ss pc lo st h Q hF p e R s m args below meth c Qm H locs ls Y hd1 hd2 hmc hms hexit hcs hss hR hS hl
  have hck := am_ka y pc
  unfold am_F at hF
  split at hF
  rename_i pc' ins nx la lb lc v ps hat
  rw [hat] at hck
  split at hF
  · rename_i hpc
    have hpc : pc' = pc := Nat.eq_of_beq_eq_true hpc
    subst hpc
    refine am_C_W Y hck hF (fun pc lo st h H locs ls hgo hR hS hl => hgo p e R s m args below meth c Qm H locs ls Y hd1 hd2 hmc hms hexit hcs hss hR hS hl) (fun n st h hal => ?_) (fun n st h H locs ls hal hR hS hl => ?_) (fun hinv hcl => am_call Y hck hinv hcl hd1 hd2 hmc hms hcs hss hR hS hl (fun cs' ss' st' h' H1 locs1 hX hcs' hss' hR' hS' => hX p e R s m args below meth c Qm H1 locs1 ls Y hd1 hd2 hmc hms hexit hcs' hss' hR' hS' hl)) (fun r hrt hst hdg => ?_) hR hS hl
    · split at hal
      · rename_i hc
        exact ⟨Nat.le_trans hc.1 hmc, Nat.le_trans hc.2 hms⟩
      · exact hal.elim
    · split at hal
      · rename_i hc
        exact hal p e R s m args below meth c Qm H locs ls Y hd1 hd2 hmc hms hexit hc.1 hc.2 hR hS hl
      · exact hal.elim
    · rw [← hst]
      exact hexit r h H locs ls _ cs ss hrt.1 hrt.2 hR hS hcs hss hdg
  · exact hF.elim
