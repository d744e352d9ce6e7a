def am_ki_NTrIL (K : Int32 → Nat → (Nat → Nat × Nat) → (Nat → Nat → Option Nat) → am_I → am_J → Prop) : am_Q := fun v h => ∃ (q : Int32) (N1 : Nat) (T1 : Nat → Nat × Nat) (r1 : Nat → Nat → Option Nat) (I1 : am_I) (L1 : am_J), v = some (.int q) ∧ h = (N1, am_ts T1, I1, L1, am_rs r1) ∧ K q N1 T1 r1 I1 L1
/-! THE LAW'S LOOP: from 42 statements, one for each kind of call, to the law's end; written by program (law.py) -/
theorem am_do_cs {S : am_S} {mc ms mcz msz mlz : Nat} {en : List Value} {y d cs ss cs' ss' nx : Nat} {lo : List Value} {h : am_H} {Q : am_Q} {z : Nat} {r : List Value} (h1 : cs' ≤ cs) (h2 : ss' ≤ ss) (hh : am_do mc ms mcz msz mlz en (fun y d cs ss pc lo st h Q => ∀ cs' ss', cs' ≤ cs → ss' ≤ ss → am_E S y d cs' ss' pc lo st h Q) y d cs ss nx lo h Q z r) : am_do mc ms mcz msz mlz en (am_E S) y d cs' ss' nx lo h Q z r := by
  unfold am_do at hh ⊢
  split at hh
  · rename_i hc
    rw [if_pos ⟨hc.1, by omega, by omega, hc.2.2.2⟩]
    obtain ⟨Q', g1, g2⟩ := hh
    exact ⟨Q', g1 _ _ (Nat.le_refl _) (Nat.le_refl _), fun v h' hq => g2 v h' hq _ _ (by omega) (by omega)⟩
  · exact hh.elim
theorem am_cl_cs {S : am_S} {y cs ss cs' ss' nx : Nat} {lo : List Value} {h : am_H} {Q : am_Q} {d kind z n : Nat} {st : List Value} (h1 : cs' ≤ cs) (h2 : ss' ≤ ss) (hh : am_cl S (fun y d cs ss pc lo st h Q => ∀ cs' ss', cs' ≤ cs → ss' ≤ ss → am_E S y d cs' ss' pc lo st h Q) y cs ss nx lo h Q d kind z n st) : am_cl S (am_E S) y cs' ss' nx lo h Q d kind z n st := by
  revert hh
  unfold am_cl
  (repeat' split) <;> intro hh <;> first | exact hh.elim | exact am_do_cs h1 h2 hh | exact hh _ _ h1 h2
/-- what was made less is no harm -/
theorem am_E.cs {S : am_S} {y d cs ss cs' ss' pc : Nat} {lo st : List Value} {h : am_H} {Q : am_Q} (hE : am_E S y d cs ss pc lo st h Q) (h1 : cs' ≤ cs) (h2 : ss' ≤ ss) : am_E S y d cs' ss' pc lo st h Q := by
  refine hE (fun y d cs ss pc lo st h Q => ∀ cs' ss', cs' ≤ cs → ss' ≤ ss → am_E S y d cs' ss' pc lo st h Q) ?_ cs' ss' h1 h2
  intro y d cs ss pc lo st h Q hF cs' ss' h1 h2
  refine am_E.go ?_
  unfold am_F at hF ⊢
  split at hF
  rename_i pc' ins nx la lb lc v ps hat
  split at hF
  · rename_i hpc
    rw [if_pos hpc]
    refine am_C_mono (fun _ _ _ _ q => q _ _ h1 h2) (fun n st h q => ?_) (fun _ _ _ _ q => am_cl_cs h1 h2 q) (fun _ q => q) hF
    split at q
    · rename_i hc
      rw [if_pos ⟨by omega, by omega⟩]
      exact q _ _ (by omega) (by omega)
    · exact q.elim
  · exact hF.elim
/-- door: the class, then the reference -/
def op_0 (x1 : Int32) (x2 : Int32) (P : Nat → (Nat → Nat × Nat) → (Nat → Nat → Option Nat) → am_I → am_J → Prop) (N : Nat) (T : Nat → Nat × Nat) (r : Nat → Nat → Option Nat) (I : am_I) (L : am_J) : Prop :=
  w_11 x1 x2 I (fun q I1 => w_185 x1 x2 I1 (fun q2 I2 => q = q2 ∧ P N T r I2 L))
set_option maxRecDepth 100000 in
theorem lc_0 {S : am_S} {d cs ss N : Nat} {T : Nat → Nat × Nat} {I : am_I} {L : am_J} {r : Nat → Nat → Option Nat} {Q : am_Q} {v3 : Int32} {P : Nat → (Nat → Nat × Nat) → (Nat → Nat → Option Nat) → am_I → am_J → Prop} (hb1 : ¬ ((v3 + 1) < 0 ∨ S.1 ≤ Int32.toNatClampNeg (v3 + 1))) (hb2 : ¬ ((v3 + 2) < 0 ∨ S.1 ≤ Int32.toNatClampNeg (v3 + 2))) (hcs : cs + 12 ≤ 10000) (hss : ss + 11333 ≤ 6000000) (hw : op_0 (S.2 (Int32.toNatClampNeg (v3 + 1))) (S.2 (Int32.toNatClampNeg (v3 + 2))) P N T r I L) (hn : ∀ N T r I L, P N T r I L → am_E S 304 (d + 60) (cs + 12) (ss + 11333) 1332 [.retAddr 3, .ref 0, .ref 66, .int v3] [] (N, am_ts T, I, L, am_rs r) Q) : am_E S 304 (d + 60) cs ss 216 [.retAddr 3, .ref 0, .ref 66, .int v3] [] (N, am_ts T, I, L, am_rs r) Q := by
  unfold op_0 at hw
  refine am_E.run [227] 200 (show (if (v3 + 1) < 0 ∨ S.1 ≤ Int32.toNatClampNeg (v3 + 1) then False else (if (v3 + 2) < 0 ∨ S.1 ≤ Int32.toNatClampNeg (v3 + 2) then False else (am_E S 304 (d + 60) cs ss 227 [.retAddr 3, .ref 0, .ref 66, .int v3] [.int (S.2 (Int32.toNatClampNeg (v3 + 2))), .int (S.2 (Int32.toNatClampNeg (v3 + 1))), .ref 0] (N, am_ts T, I, L, am_rs r) Q))) from ?_)
  refine am_ifn hb1 ?_
  refine am_ifn hb2 ?_
  refine am_E.go (show (if (am_cat [] ≤ 8 ∧ cs + am_mc 11 ≤ am_mc 304 ∧ ss + am_ms 11 ≤ am_ms 304 ∧ (am_en 11 [.ref 0, .int (S.2 (Int32.toNatClampNeg (v3 + 1))), .int (S.2 (Int32.toNatClampNeg (v3 + 2)))]).length = am_ml 11) then _ else False) from ?_)
  refine am_ifp ⟨(show 0 ≤ 8 by decide), (show cs + 0 ≤ 10000 by omega), (show ss + 0 ≤ 6000000 by omega), rfl⟩ ?_
  refine ⟨am_ki_I N T L r _, s_11 hw (fun q I1 hk => ⟨q, I1, rfl, rfl, hk⟩), ?_⟩
  intro v h9 hv
  obtain ⟨q, I1, rfl, rfl, hw⟩ := hv
  try dsimp only at hw
  refine am_E.run [241] 200 (show (if (v3 + 1) < 0 ∨ S.1 ≤ Int32.toNatClampNeg (v3 + 1) then False else (if (v3 + 2) < 0 ∨ S.1 ≤ Int32.toNatClampNeg (v3 + 2) then False else (am_E S 304 (d + 60) cs ss 241 [.retAddr 3, .ref 0, .ref 66, .int v3] [.int (S.2 (Int32.toNatClampNeg (v3 + 2))), .int (S.2 (Int32.toNatClampNeg (v3 + 1))), .ref 66, .int q] (N, am_ts T, I1, L, am_rs r) Q))) from ?_)
  refine am_ifn hb1 ?_
  refine am_ifn hb2 ?_
  refine am_E.go (show (if (am_cat [.int q] ≤ 8 ∧ cs + am_mc 185 ≤ am_mc 304 ∧ ss + am_ms 185 ≤ am_ms 304 ∧ (am_en 185 [.ref 66, .int (S.2 (Int32.toNatClampNeg (v3 + 1))), .int (S.2 (Int32.toNatClampNeg (v3 + 2)))]).length = am_ml 185) then _ else False) from ?_)
  refine am_ifp ⟨(show 1 ≤ 8 by decide), (show cs + 0 ≤ 10000 by omega), (show ss + 0 ≤ 6000000 by omega), rfl⟩ ?_
  refine ⟨am_ki_I N T L r _, s_185 hw (fun q2 I2 hk => ⟨q2, I2, rfl, rfl, hk⟩), ?_⟩
  intro v h9 hv
  obtain ⟨q2, I2, rfl, rfl, hw⟩ := hv
  try dsimp only at hw
  refine am_E.run [1332] 200 (show (if q = q2 then (am_E S 304 (d + 60) cs ss 1332 [.retAddr 3, .ref 0, .ref 66, .int v3] [] (N, am_ts T, I2, L, am_rs r) Q) else (((0 : Int32) = 0 ∨ (0 : Int32) = 1) ∧ Q (some (.int 0)) (N, am_ts T, I2, L, am_rs r))) from ?_)
  refine am_ifp hw.1 ?_
  exact (hn _ _ _ _ _ hw.2).cs (by omega) (by omega)
/-- wall: the class, then the reference -/
def op_1 (x1 : Int32) (x2 : Int32) (P : Nat → (Nat → Nat × Nat) → (Nat → Nat → Option Nat) → am_I → am_J → Prop) (N : Nat) (T : Nat → Nat × Nat) (r : Nat → Nat → Option Nat) (I : am_I) (L : am_J) : Prop :=
  w_17 x1 x2 I (fun q I1 => w_186 x1 x2 I1 (fun q2 I2 => q = q2 ∧ P N T r I2 L))
set_option maxRecDepth 100000 in
theorem lc_1 {S : am_S} {d cs ss N : Nat} {T : Nat → Nat × Nat} {I : am_I} {L : am_J} {r : Nat → Nat → Option Nat} {Q : am_Q} {v3 : Int32} {P : Nat → (Nat → Nat × Nat) → (Nat → Nat → Option Nat) → am_I → am_J → Prop} (hb1 : ¬ ((v3 + 1) < 0 ∨ S.1 ≤ Int32.toNatClampNeg (v3 + 1))) (hb2 : ¬ ((v3 + 2) < 0 ∨ S.1 ≤ Int32.toNatClampNeg (v3 + 2))) (hcs : cs + 12 ≤ 10000) (hss : ss + 11333 ≤ 6000000) (hw : op_1 (S.2 (Int32.toNatClampNeg (v3 + 1))) (S.2 (Int32.toNatClampNeg (v3 + 2))) P N T r I L) (hn : ∀ N T r I L, P N T r I L → am_E S 304 (d + 60) (cs + 12) (ss + 11333) 1332 [.retAddr 3, .ref 0, .ref 66, .int v3] [] (N, am_ts T, I, L, am_rs r) Q) : am_E S 304 (d + 60) cs ss 249 [.retAddr 3, .ref 0, .ref 66, .int v3] [] (N, am_ts T, I, L, am_rs r) Q := by
  unfold op_1 at hw
  refine am_E.run [260] 200 (show (if (v3 + 1) < 0 ∨ S.1 ≤ Int32.toNatClampNeg (v3 + 1) then False else (if (v3 + 2) < 0 ∨ S.1 ≤ Int32.toNatClampNeg (v3 + 2) then False else (am_E S 304 (d + 60) cs ss 260 [.retAddr 3, .ref 0, .ref 66, .int v3] [.int (S.2 (Int32.toNatClampNeg (v3 + 2))), .int (S.2 (Int32.toNatClampNeg (v3 + 1))), .ref 0] (N, am_ts T, I, L, am_rs r) Q))) from ?_)
  refine am_ifn hb1 ?_
  refine am_ifn hb2 ?_
  refine am_E.go (show (if (am_cat [] ≤ 8 ∧ cs + am_mc 17 ≤ am_mc 304 ∧ ss + am_ms 17 ≤ am_ms 304 ∧ (am_en 17 [.ref 0, .int (S.2 (Int32.toNatClampNeg (v3 + 1))), .int (S.2 (Int32.toNatClampNeg (v3 + 2)))]).length = am_ml 17) then _ else False) from ?_)
  refine am_ifp ⟨(show 0 ≤ 8 by decide), (show cs + 0 ≤ 10000 by omega), (show ss + 0 ≤ 6000000 by omega), rfl⟩ ?_
  refine ⟨am_ki_I N T L r _, s_17 hw (fun q I1 hk => ⟨q, I1, rfl, rfl, hk⟩), ?_⟩
  intro v h9 hv
  obtain ⟨q, I1, rfl, rfl, hw⟩ := hv
  try dsimp only at hw
  refine am_E.run [274] 200 (show (if (v3 + 1) < 0 ∨ S.1 ≤ Int32.toNatClampNeg (v3 + 1) then False else (if (v3 + 2) < 0 ∨ S.1 ≤ Int32.toNatClampNeg (v3 + 2) then False else (am_E S 304 (d + 60) cs ss 274 [.retAddr 3, .ref 0, .ref 66, .int v3] [.int (S.2 (Int32.toNatClampNeg (v3 + 2))), .int (S.2 (Int32.toNatClampNeg (v3 + 1))), .ref 66, .int q] (N, am_ts T, I1, L, am_rs r) Q))) from ?_)
  refine am_ifn hb1 ?_
  refine am_ifn hb2 ?_
  refine am_E.go (show (if (am_cat [.int q] ≤ 8 ∧ cs + am_mc 186 ≤ am_mc 304 ∧ ss + am_ms 186 ≤ am_ms 304 ∧ (am_en 186 [.ref 66, .int (S.2 (Int32.toNatClampNeg (v3 + 1))), .int (S.2 (Int32.toNatClampNeg (v3 + 2)))]).length = am_ml 186) then _ else False) from ?_)
  refine am_ifp ⟨(show 1 ≤ 8 by decide), (show cs + 0 ≤ 10000 by omega), (show ss + 0 ≤ 6000000 by omega), rfl⟩ ?_
  refine ⟨am_ki_I N T L r _, s_186 hw (fun q2 I2 hk => ⟨q2, I2, rfl, rfl, hk⟩), ?_⟩
  intro v h9 hv
  obtain ⟨q2, I2, rfl, rfl, hw⟩ := hv
  try dsimp only at hw
  refine am_E.run [1332] 200 (show (if q = q2 then (am_E S 304 (d + 60) cs ss 1332 [.retAddr 3, .ref 0, .ref 66, .int v3] [] (N, am_ts T, I2, L, am_rs r) Q) else (((0 : Int32) = 0 ∨ (0 : Int32) = 1) ∧ Q (some (.int 0)) (N, am_ts T, I2, L, am_rs r))) from ?_)
  refine am_ifp hw.1 ?_
  exact (hn _ _ _ _ _ hw.2).cs (by omega) (by omega)
/-- prisoner: the class, then the reference -/
def op_2 (x1 : Int32) (x2 : Int32) (x3 : Int32) (P : Nat → (Nat → Nat × Nat) → (Nat → Nat → Option Nat) → am_I → am_J → Prop) (N : Nat) (T : Nat → Nat × Nat) (r : Nat → Nat → Option Nat) (I : am_I) (L : am_J) : Prop :=
  w_22 x1 x2 x3 I (fun q I1 => w_189 x1 x2 x3 I1 (fun q2 I2 => q = q2 ∧ P N T r I2 L))
set_option maxRecDepth 100000 in
theorem lc_2 {S : am_S} {d cs ss N : Nat} {T : Nat → Nat × Nat} {I : am_I} {L : am_J} {r : Nat → Nat → Option Nat} {Q : am_Q} {v3 : Int32} {P : Nat → (Nat → Nat × Nat) → (Nat → Nat → Option Nat) → am_I → am_J → Prop} (hb1 : ¬ ((v3 + 1) < 0 ∨ S.1 ≤ Int32.toNatClampNeg (v3 + 1))) (hb2 : ¬ ((v3 + 2) < 0 ∨ S.1 ≤ Int32.toNatClampNeg (v3 + 2))) (hb3 : ¬ ((v3 + 3) < 0 ∨ S.1 ≤ Int32.toNatClampNeg (v3 + 3))) (hcs : cs + 12 ≤ 10000) (hss : ss + 11333 ≤ 6000000) (hw : op_2 (S.2 (Int32.toNatClampNeg (v3 + 1))) (S.2 (Int32.toNatClampNeg (v3 + 2))) (S.2 (Int32.toNatClampNeg (v3 + 3))) P N T r I L) (hn : ∀ N T r I L, P N T r I L → am_E S 304 (d + 60) (cs + 12) (ss + 11333) 1332 [.retAddr 3, .ref 0, .ref 66, .int v3] [] (N, am_ts T, I, L, am_rs r) Q) : am_E S 304 (d + 60) cs ss 282 [.retAddr 3, .ref 0, .ref 66, .int v3] [] (N, am_ts T, I, L, am_rs r) Q := by
  unfold op_2 at hw
  refine am_E.run [298] 200 (show (if (v3 + 1) < 0 ∨ S.1 ≤ Int32.toNatClampNeg (v3 + 1) then False else (if (v3 + 2) < 0 ∨ S.1 ≤ Int32.toNatClampNeg (v3 + 2) then False else (if (v3 + 3) < 0 ∨ S.1 ≤ Int32.toNatClampNeg (v3 + 3) then False else (am_E S 304 (d + 60) cs ss 298 [.retAddr 3, .ref 0, .ref 66, .int v3] [.int (S.2 (Int32.toNatClampNeg (v3 + 3))), .int (S.2 (Int32.toNatClampNeg (v3 + 2))), .int (S.2 (Int32.toNatClampNeg (v3 + 1))), .ref 0] (N, am_ts T, I, L, am_rs r) Q)))) from ?_)
  refine am_ifn hb1 ?_
  refine am_ifn hb2 ?_
  refine am_ifn hb3 ?_
  refine am_E.go (show (if (am_cat [] ≤ 8 ∧ cs + am_mc 22 ≤ am_mc 304 ∧ ss + am_ms 22 ≤ am_ms 304 ∧ (am_en 22 [.ref 0, .int (S.2 (Int32.toNatClampNeg (v3 + 1))), .int (S.2 (Int32.toNatClampNeg (v3 + 2))), .int (S.2 (Int32.toNatClampNeg (v3 + 3)))]).length = am_ml 22) then _ else False) from ?_)
  refine am_ifp ⟨(show 0 ≤ 8 by decide), (show cs + 0 ≤ 10000 by omega), (show ss + 0 ≤ 6000000 by omega), rfl⟩ ?_
  refine ⟨am_ki_I N T L r _, s_22 hw (fun q I1 hk => ⟨q, I1, rfl, rfl, hk⟩), ?_⟩
  intro v h9 hv
  obtain ⟨q, I1, rfl, rfl, hw⟩ := hv
  try dsimp only at hw
  refine am_E.run [317] 200 (show (if (v3 + 1) < 0 ∨ S.1 ≤ Int32.toNatClampNeg (v3 + 1) then False else (if (v3 + 2) < 0 ∨ S.1 ≤ Int32.toNatClampNeg (v3 + 2) then False else (if (v3 + 3) < 0 ∨ S.1 ≤ Int32.toNatClampNeg (v3 + 3) then False else (am_E S 304 (d + 60) cs ss 317 [.retAddr 3, .ref 0, .ref 66, .int v3] [.int (S.2 (Int32.toNatClampNeg (v3 + 3))), .int (S.2 (Int32.toNatClampNeg (v3 + 2))), .int (S.2 (Int32.toNatClampNeg (v3 + 1))), .ref 66, .int q] (N, am_ts T, I1, L, am_rs r) Q)))) from ?_)
  refine am_ifn hb1 ?_
  refine am_ifn hb2 ?_
  refine am_ifn hb3 ?_
  refine am_E.go (show (if (am_cat [.int q] ≤ 8 ∧ cs + am_mc 189 ≤ am_mc 304 ∧ ss + am_ms 189 ≤ am_ms 304 ∧ (am_en 189 [.ref 66, .int (S.2 (Int32.toNatClampNeg (v3 + 1))), .int (S.2 (Int32.toNatClampNeg (v3 + 2))), .int (S.2 (Int32.toNatClampNeg (v3 + 3)))]).length = am_ml 189) then _ else False) from ?_)
  refine am_ifp ⟨(show 1 ≤ 8 by decide), (show cs + 0 ≤ 10000 by omega), (show ss + 0 ≤ 6000000 by omega), rfl⟩ ?_
  refine ⟨am_ki_I N T L r _, s_189 hw (fun q2 I2 hk => ⟨q2, I2, rfl, rfl, hk⟩), ?_⟩
  intro v h9 hv
  obtain ⟨q2, I2, rfl, rfl, hw⟩ := hv
  try dsimp only at hw
  refine am_E.run [1332] 200 (show (if q = q2 then (am_E S 304 (d + 60) cs ss 1332 [.retAddr 3, .ref 0, .ref 66, .int v3] [] (N, am_ts T, I2, L, am_rs r) Q) else (((0 : Int32) = 0 ∨ (0 : Int32) = 1) ∧ Q (some (.int 0)) (N, am_ts T, I2, L, am_rs r))) from ?_)
  refine am_ifp hw.1 ?_
  exact (hn _ _ _ _ _ hw.2).cs (by omega) (by omega)
/-- of: the class, then the reference -/
def op_3 (x1 : Int32) (x2 : Int32) (P : Nat → (Nat → Nat × Nat) → (Nat → Nat → Option Nat) → am_I → am_J → Prop) (N : Nat) (T : Nat → Nat × Nat) (r : Nat → Nat → Option Nat) (I : am_I) (L : am_J) : Prop :=
  w_26 x1 x2 I (fun q => w_191 x1 x2 I (fun q2 I2 => q = q2 ∧ P N T r I2 L))
set_option maxRecDepth 100000 in
theorem lc_3 {S : am_S} {d cs ss N : Nat} {T : Nat → Nat × Nat} {I : am_I} {L : am_J} {r : Nat → Nat → Option Nat} {Q : am_Q} {v3 : Int32} {P : Nat → (Nat → Nat × Nat) → (Nat → Nat → Option Nat) → am_I → am_J → Prop} (hb1 : ¬ ((v3 + 1) < 0 ∨ S.1 ≤ Int32.toNatClampNeg (v3 + 1))) (hb2 : ¬ ((v3 + 2) < 0 ∨ S.1 ≤ Int32.toNatClampNeg (v3 + 2))) (hcs : cs + 12 ≤ 10000) (hss : ss + 11333 ≤ 6000000) (hw : op_3 (S.2 (Int32.toNatClampNeg (v3 + 1))) (S.2 (Int32.toNatClampNeg (v3 + 2))) P N T r I L) (hn : ∀ N T r I L, P N T r I L → am_E S 304 (d + 60) (cs + 12) (ss + 11333) 1332 [.retAddr 3, .ref 0, .ref 66, .int v3] [] (N, am_ts T, I, L, am_rs r) Q) : am_E S 304 (d + 60) cs ss 325 [.retAddr 3, .ref 0, .ref 66, .int v3] [] (N, am_ts T, I, L, am_rs r) Q := by
  unfold op_3 at hw
  refine am_E.run [336] 200 (show (if (v3 + 1) < 0 ∨ S.1 ≤ Int32.toNatClampNeg (v3 + 1) then False else (if (v3 + 2) < 0 ∨ S.1 ≤ Int32.toNatClampNeg (v3 + 2) then False else (am_E S 304 (d + 60) cs ss 336 [.retAddr 3, .ref 0, .ref 66, .int v3] [.int (S.2 (Int32.toNatClampNeg (v3 + 2))), .int (S.2 (Int32.toNatClampNeg (v3 + 1))), .ref 0] (N, am_ts T, I, L, am_rs r) Q))) from ?_)
  refine am_ifn hb1 ?_
  refine am_ifn hb2 ?_
  refine am_E.go (show (if (am_cat [] ≤ 8 ∧ cs + am_mc 26 ≤ am_mc 304 ∧ ss + am_ms 26 ≤ am_ms 304 ∧ (am_en 26 [.ref 0, .int (S.2 (Int32.toNatClampNeg (v3 + 1))), .int (S.2 (Int32.toNatClampNeg (v3 + 2)))]).length = am_ml 26) then _ else False) from ?_)
  refine am_ifp ⟨(show 0 ≤ 8 by decide), (show cs + 0 ≤ 10000 by omega), (show ss + 0 ≤ 6000000 by omega), rfl⟩ ?_
  refine ⟨am_ki_ N T I L r _, s_26 hw (fun q hk => ⟨q, rfl, rfl, hk⟩), ?_⟩
  intro v h9 hv
  obtain ⟨q, rfl, rfl, hw⟩ := hv
  try dsimp only at hw
  refine am_E.run [350] 200 (show (if (v3 + 1) < 0 ∨ S.1 ≤ Int32.toNatClampNeg (v3 + 1) then False else (if (v3 + 2) < 0 ∨ S.1 ≤ Int32.toNatClampNeg (v3 + 2) then False else (am_E S 304 (d + 60) cs ss 350 [.retAddr 3, .ref 0, .ref 66, .int v3] [.int (S.2 (Int32.toNatClampNeg (v3 + 2))), .int (S.2 (Int32.toNatClampNeg (v3 + 1))), .ref 66, .int q] (N, am_ts T, I, L, am_rs r) Q))) from ?_)
  refine am_ifn hb1 ?_
  refine am_ifn hb2 ?_
  refine am_E.go (show (if (am_cat [.int q] ≤ 8 ∧ cs + am_mc 191 ≤ am_mc 304 ∧ ss + am_ms 191 ≤ am_ms 304 ∧ (am_en 191 [.ref 66, .int (S.2 (Int32.toNatClampNeg (v3 + 1))), .int (S.2 (Int32.toNatClampNeg (v3 + 2)))]).length = am_ml 191) then _ else False) from ?_)
  refine am_ifp ⟨(show 1 ≤ 8 by decide), (show cs + 0 ≤ 10000 by omega), (show ss + 0 ≤ 6000000 by omega), rfl⟩ ?_
  refine ⟨am_ki_I N T L r _, s_191 hw (fun q2 I2 hk => ⟨q2, I2, rfl, rfl, hk⟩), ?_⟩
  intro v h9 hv
  obtain ⟨q2, I2, rfl, rfl, hw⟩ := hv
  try dsimp only at hw
  refine am_E.run [1332] 200 (show (if q = q2 then (am_E S 304 (d + 60) cs ss 1332 [.retAddr 3, .ref 0, .ref 66, .int v3] [] (N, am_ts T, I2, L, am_rs r) Q) else (((0 : Int32) = 0 ∨ (0 : Int32) = 1) ∧ Q (some (.int 0)) (N, am_ts T, I2, L, am_rs r))) from ?_)
  refine am_ifp hw.1 ?_
  exact (hn _ _ _ _ _ hw.2).cs (by omega) (by omega)
/-- key: the class, then the reference -/
def op_4 (x1 : Int32) (x2 : Int32) (x3 : Int32) (P : Nat → (Nat → Nat × Nat) → (Nat → Nat → Option Nat) → am_I → am_J → Prop) (N : Nat) (T : Nat → Nat × Nat) (r : Nat → Nat → Option Nat) (I : am_I) (L : am_J) : Prop :=
  w_28 x1 x2 x3 I (fun q I1 => w_193 x1 x2 x3 I1 (fun q2 I2 => q = q2 ∧ P N T r I2 L))
set_option maxRecDepth 100000 in
theorem lc_4 {S : am_S} {d cs ss N : Nat} {T : Nat → Nat × Nat} {I : am_I} {L : am_J} {r : Nat → Nat → Option Nat} {Q : am_Q} {v3 : Int32} {P : Nat → (Nat → Nat × Nat) → (Nat → Nat → Option Nat) → am_I → am_J → Prop} (hb1 : ¬ ((v3 + 1) < 0 ∨ S.1 ≤ Int32.toNatClampNeg (v3 + 1))) (hb2 : ¬ ((v3 + 2) < 0 ∨ S.1 ≤ Int32.toNatClampNeg (v3 + 2))) (hb3 : ¬ ((v3 + 3) < 0 ∨ S.1 ≤ Int32.toNatClampNeg (v3 + 3))) (hcs : cs + 12 ≤ 10000) (hss : ss + 11333 ≤ 6000000) (hw : op_4 (S.2 (Int32.toNatClampNeg (v3 + 1))) (S.2 (Int32.toNatClampNeg (v3 + 2))) (S.2 (Int32.toNatClampNeg (v3 + 3))) P N T r I L) (hn : ∀ N T r I L, P N T r I L → am_E S 304 (d + 60) (cs + 12) (ss + 11333) 1332 [.retAddr 3, .ref 0, .ref 66, .int v3] [] (N, am_ts T, I, L, am_rs r) Q) : am_E S 304 (d + 60) cs ss 358 [.retAddr 3, .ref 0, .ref 66, .int v3] [] (N, am_ts T, I, L, am_rs r) Q := by
  unfold op_4 at hw
  refine am_E.run [374] 200 (show (if (v3 + 1) < 0 ∨ S.1 ≤ Int32.toNatClampNeg (v3 + 1) then False else (if (v3 + 2) < 0 ∨ S.1 ≤ Int32.toNatClampNeg (v3 + 2) then False else (if (v3 + 3) < 0 ∨ S.1 ≤ Int32.toNatClampNeg (v3 + 3) then False else (am_E S 304 (d + 60) cs ss 374 [.retAddr 3, .ref 0, .ref 66, .int v3] [.int (S.2 (Int32.toNatClampNeg (v3 + 3))), .int (S.2 (Int32.toNatClampNeg (v3 + 2))), .int (S.2 (Int32.toNatClampNeg (v3 + 1))), .ref 0] (N, am_ts T, I, L, am_rs r) Q)))) from ?_)
  refine am_ifn hb1 ?_
  refine am_ifn hb2 ?_
  refine am_ifn hb3 ?_
  refine am_E.go (show (if (am_cat [] ≤ 8 ∧ cs + am_mc 28 ≤ am_mc 304 ∧ ss + am_ms 28 ≤ am_ms 304 ∧ (am_en 28 [.ref 0, .int (S.2 (Int32.toNatClampNeg (v3 + 1))), .int (S.2 (Int32.toNatClampNeg (v3 + 2))), .int (S.2 (Int32.toNatClampNeg (v3 + 3)))]).length = am_ml 28) then _ else False) from ?_)
  refine am_ifp ⟨(show 0 ≤ 8 by decide), (show cs + 0 ≤ 10000 by omega), (show ss + 0 ≤ 6000000 by omega), rfl⟩ ?_
  refine ⟨am_ki_I N T L r _, s_28 hw (fun q I1 hk => ⟨q, I1, rfl, rfl, hk⟩), ?_⟩
  intro v h9 hv
  obtain ⟨q, I1, rfl, rfl, hw⟩ := hv
  try dsimp only at hw
  refine am_E.run [393] 200 (show (if (v3 + 1) < 0 ∨ S.1 ≤ Int32.toNatClampNeg (v3 + 1) then False else (if (v3 + 2) < 0 ∨ S.1 ≤ Int32.toNatClampNeg (v3 + 2) then False else (if (v3 + 3) < 0 ∨ S.1 ≤ Int32.toNatClampNeg (v3 + 3) then False else (am_E S 304 (d + 60) cs ss 393 [.retAddr 3, .ref 0, .ref 66, .int v3] [.int (S.2 (Int32.toNatClampNeg (v3 + 3))), .int (S.2 (Int32.toNatClampNeg (v3 + 2))), .int (S.2 (Int32.toNatClampNeg (v3 + 1))), .ref 66, .int q] (N, am_ts T, I1, L, am_rs r) Q)))) from ?_)
  refine am_ifn hb1 ?_
  refine am_ifn hb2 ?_
  refine am_ifn hb3 ?_
  refine am_E.go (show (if (am_cat [.int q] ≤ 8 ∧ cs + am_mc 193 ≤ am_mc 304 ∧ ss + am_ms 193 ≤ am_ms 304 ∧ (am_en 193 [.ref 66, .int (S.2 (Int32.toNatClampNeg (v3 + 1))), .int (S.2 (Int32.toNatClampNeg (v3 + 2))), .int (S.2 (Int32.toNatClampNeg (v3 + 3)))]).length = am_ml 193) then _ else False) from ?_)
  refine am_ifp ⟨(show 1 ≤ 8 by decide), (show cs + 0 ≤ 10000 by omega), (show ss + 0 ≤ 6000000 by omega), rfl⟩ ?_
  refine ⟨am_ki_I N T L r _, s_193 hw (fun q2 I2 hk => ⟨q2, I2, rfl, rfl, hk⟩), ?_⟩
  intro v h9 hv
  obtain ⟨q2, I2, rfl, rfl, hw⟩ := hv
  try dsimp only at hw
  refine am_E.run [1332] 200 (show (if q = q2 then (am_E S 304 (d + 60) cs ss 1332 [.retAddr 3, .ref 0, .ref 66, .int v3] [] (N, am_ts T, I2, L, am_rs r) Q) else (((0 : Int32) = 0 ∨ (0 : Int32) = 1) ∧ Q (some (.int 0)) (N, am_ts T, I2, L, am_rs r))) from ?_)
  refine am_ifp hw.1 ?_
  exact (hn _ _ _ _ _ hw.2).cs (by omega) (by omega)
/-- trust: the class, then the reference -/
def op_5 (x1 : Int32) (x2 : Int32) (x3 : Int32) (P : Nat → (Nat → Nat × Nat) → (Nat → Nat → Option Nat) → am_I → am_J → Prop) (N : Nat) (T : Nat → Nat × Nat) (r : Nat → Nat → Option Nat) (I : am_I) (L : am_J) : Prop :=
  w_29 x1 x2 x3 I (fun q I1 => w_195 x1 x2 x3 I1 (fun q2 I2 => q = q2 ∧ P N T r I2 L))
set_option maxRecDepth 100000 in
theorem lc_5 {S : am_S} {d cs ss N : Nat} {T : Nat → Nat × Nat} {I : am_I} {L : am_J} {r : Nat → Nat → Option Nat} {Q : am_Q} {v3 : Int32} {P : Nat → (Nat → Nat × Nat) → (Nat → Nat → Option Nat) → am_I → am_J → Prop} (hb1 : ¬ ((v3 + 1) < 0 ∨ S.1 ≤ Int32.toNatClampNeg (v3 + 1))) (hb2 : ¬ ((v3 + 2) < 0 ∨ S.1 ≤ Int32.toNatClampNeg (v3 + 2))) (hb3 : ¬ ((v3 + 3) < 0 ∨ S.1 ≤ Int32.toNatClampNeg (v3 + 3))) (hcs : cs + 12 ≤ 10000) (hss : ss + 11333 ≤ 6000000) (hw : op_5 (S.2 (Int32.toNatClampNeg (v3 + 1))) (S.2 (Int32.toNatClampNeg (v3 + 2))) (S.2 (Int32.toNatClampNeg (v3 + 3))) P N T r I L) (hn : ∀ N T r I L, P N T r I L → am_E S 304 (d + 60) (cs + 12) (ss + 11333) 1332 [.retAddr 3, .ref 0, .ref 66, .int v3] [] (N, am_ts T, I, L, am_rs r) Q) : am_E S 304 (d + 60) cs ss 401 [.retAddr 3, .ref 0, .ref 66, .int v3] [] (N, am_ts T, I, L, am_rs r) Q := by
  unfold op_5 at hw
  refine am_E.run [417] 200 (show (if (v3 + 1) < 0 ∨ S.1 ≤ Int32.toNatClampNeg (v3 + 1) then False else (if (v3 + 2) < 0 ∨ S.1 ≤ Int32.toNatClampNeg (v3 + 2) then False else (if (v3 + 3) < 0 ∨ S.1 ≤ Int32.toNatClampNeg (v3 + 3) then False else (am_E S 304 (d + 60) cs ss 417 [.retAddr 3, .ref 0, .ref 66, .int v3] [.int (S.2 (Int32.toNatClampNeg (v3 + 3))), .int (S.2 (Int32.toNatClampNeg (v3 + 2))), .int (S.2 (Int32.toNatClampNeg (v3 + 1))), .ref 0] (N, am_ts T, I, L, am_rs r) Q)))) from ?_)
  refine am_ifn hb1 ?_
  refine am_ifn hb2 ?_
  refine am_ifn hb3 ?_
  refine am_E.go (show (if (am_cat [] ≤ 8 ∧ cs + am_mc 29 ≤ am_mc 304 ∧ ss + am_ms 29 ≤ am_ms 304 ∧ (am_en 29 [.ref 0, .int (S.2 (Int32.toNatClampNeg (v3 + 1))), .int (S.2 (Int32.toNatClampNeg (v3 + 2))), .int (S.2 (Int32.toNatClampNeg (v3 + 3)))]).length = am_ml 29) then _ else False) from ?_)
  refine am_ifp ⟨(show 0 ≤ 8 by decide), (show cs + 0 ≤ 10000 by omega), (show ss + 0 ≤ 6000000 by omega), rfl⟩ ?_
  refine ⟨am_ki_I N T L r _, s_29 hw (fun q I1 hk => ⟨q, I1, rfl, rfl, hk⟩), ?_⟩
  intro v h9 hv
  obtain ⟨q, I1, rfl, rfl, hw⟩ := hv
  try dsimp only at hw
  refine am_E.run [436] 200 (show (if (v3 + 1) < 0 ∨ S.1 ≤ Int32.toNatClampNeg (v3 + 1) then False else (if (v3 + 2) < 0 ∨ S.1 ≤ Int32.toNatClampNeg (v3 + 2) then False else (if (v3 + 3) < 0 ∨ S.1 ≤ Int32.toNatClampNeg (v3 + 3) then False else (am_E S 304 (d + 60) cs ss 436 [.retAddr 3, .ref 0, .ref 66, .int v3] [.int (S.2 (Int32.toNatClampNeg (v3 + 3))), .int (S.2 (Int32.toNatClampNeg (v3 + 2))), .int (S.2 (Int32.toNatClampNeg (v3 + 1))), .ref 66, .int q] (N, am_ts T, I1, L, am_rs r) Q)))) from ?_)
  refine am_ifn hb1 ?_
  refine am_ifn hb2 ?_
  refine am_ifn hb3 ?_
  refine am_E.go (show (if (am_cat [.int q] ≤ 8 ∧ cs + am_mc 195 ≤ am_mc 304 ∧ ss + am_ms 195 ≤ am_ms 304 ∧ (am_en 195 [.ref 66, .int (S.2 (Int32.toNatClampNeg (v3 + 1))), .int (S.2 (Int32.toNatClampNeg (v3 + 2))), .int (S.2 (Int32.toNatClampNeg (v3 + 3)))]).length = am_ml 195) then _ else False) from ?_)
  refine am_ifp ⟨(show 1 ≤ 8 by decide), (show cs + 0 ≤ 10000 by omega), (show ss + 0 ≤ 6000000 by omega), rfl⟩ ?_
  refine ⟨am_ki_I N T L r _, s_195 hw (fun q2 I2 hk => ⟨q2, I2, rfl, rfl, hk⟩), ?_⟩
  intro v h9 hv
  obtain ⟨q2, I2, rfl, rfl, hw⟩ := hv
  try dsimp only at hw
  refine am_E.run [1332] 200 (show (if q = q2 then (am_E S 304 (d + 60) cs ss 1332 [.retAddr 3, .ref 0, .ref 66, .int v3] [] (N, am_ts T, I2, L, am_rs r) Q) else (((0 : Int32) = 0 ∨ (0 : Int32) = 1) ∧ Q (some (.int 0)) (N, am_ts T, I2, L, am_rs r))) from ?_)
  refine am_ifp hw.1 ?_
  exact (hn _ _ _ _ _ hw.2).cs (by omega) (by omega)
/-- vote: the class, then the reference -/
def op_6 (x1 : Int32) (x2 : Int32) (P : Nat → (Nat → Nat × Nat) → (Nat → Nat → Option Nat) → am_I → am_J → Prop) (N : Nat) (T : Nat → Nat × Nat) (r : Nat → Nat → Option Nat) (I : am_I) (L : am_J) : Prop :=
  w_30 x1 x2 I (fun q I1 => w_196 x1 x2 I1 (fun q2 I2 => q = q2 ∧ P N T r I2 L))
set_option maxRecDepth 100000 in
theorem lc_6 {S : am_S} {d cs ss N : Nat} {T : Nat → Nat × Nat} {I : am_I} {L : am_J} {r : Nat → Nat → Option Nat} {Q : am_Q} {v3 : Int32} {P : Nat → (Nat → Nat × Nat) → (Nat → Nat → Option Nat) → am_I → am_J → Prop} (hb1 : ¬ ((v3 + 1) < 0 ∨ S.1 ≤ Int32.toNatClampNeg (v3 + 1))) (hb2 : ¬ ((v3 + 2) < 0 ∨ S.1 ≤ Int32.toNatClampNeg (v3 + 2))) (hcs : cs + 12 ≤ 10000) (hss : ss + 11333 ≤ 6000000) (hw : op_6 (S.2 (Int32.toNatClampNeg (v3 + 1))) (S.2 (Int32.toNatClampNeg (v3 + 2))) P N T r I L) (hn : ∀ N T r I L, P N T r I L → am_E S 304 (d + 60) (cs + 12) (ss + 11333) 1332 [.retAddr 3, .ref 0, .ref 66, .int v3] [] (N, am_ts T, I, L, am_rs r) Q) : am_E S 304 (d + 60) cs ss 444 [.retAddr 3, .ref 0, .ref 66, .int v3] [] (N, am_ts T, I, L, am_rs r) Q := by
  unfold op_6 at hw
  refine am_E.run [455] 200 (show (if (v3 + 1) < 0 ∨ S.1 ≤ Int32.toNatClampNeg (v3 + 1) then False else (if (v3 + 2) < 0 ∨ S.1 ≤ Int32.toNatClampNeg (v3 + 2) then False else (am_E S 304 (d + 60) cs ss 455 [.retAddr 3, .ref 0, .ref 66, .int v3] [.int (S.2 (Int32.toNatClampNeg (v3 + 2))), .int (S.2 (Int32.toNatClampNeg (v3 + 1))), .ref 0] (N, am_ts T, I, L, am_rs r) Q))) from ?_)
  refine am_ifn hb1 ?_
  refine am_ifn hb2 ?_
  refine am_E.go (show (if (am_cat [] ≤ 8 ∧ cs + am_mc 30 ≤ am_mc 304 ∧ ss + am_ms 30 ≤ am_ms 304 ∧ (am_en 30 [.ref 0, .int (S.2 (Int32.toNatClampNeg (v3 + 1))), .int (S.2 (Int32.toNatClampNeg (v3 + 2)))]).length = am_ml 30) then _ else False) from ?_)
  refine am_ifp ⟨(show 0 ≤ 8 by decide), (show cs + 0 ≤ 10000 by omega), (show ss + 0 ≤ 6000000 by omega), rfl⟩ ?_
  refine ⟨am_ki_I N T L r _, s_30 hw (fun q I1 hk => ⟨q, I1, rfl, rfl, hk⟩), ?_⟩
  intro v h9 hv
  obtain ⟨q, I1, rfl, rfl, hw⟩ := hv
  try dsimp only at hw
  refine am_E.run [469] 200 (show (if (v3 + 1) < 0 ∨ S.1 ≤ Int32.toNatClampNeg (v3 + 1) then False else (if (v3 + 2) < 0 ∨ S.1 ≤ Int32.toNatClampNeg (v3 + 2) then False else (am_E S 304 (d + 60) cs ss 469 [.retAddr 3, .ref 0, .ref 66, .int v3] [.int (S.2 (Int32.toNatClampNeg (v3 + 2))), .int (S.2 (Int32.toNatClampNeg (v3 + 1))), .ref 66, .int q] (N, am_ts T, I1, L, am_rs r) Q))) from ?_)
  refine am_ifn hb1 ?_
  refine am_ifn hb2 ?_
  refine am_E.go (show (if (am_cat [.int q] ≤ 8 ∧ cs + am_mc 196 ≤ am_mc 304 ∧ ss + am_ms 196 ≤ am_ms 304 ∧ (am_en 196 [.ref 66, .int (S.2 (Int32.toNatClampNeg (v3 + 1))), .int (S.2 (Int32.toNatClampNeg (v3 + 2)))]).length = am_ml 196) then _ else False) from ?_)
  refine am_ifp ⟨(show 1 ≤ 8 by decide), (show cs + 0 ≤ 10000 by omega), (show ss + 0 ≤ 6000000 by omega), rfl⟩ ?_
  refine ⟨am_ki_I N T L r _, s_196 hw (fun q2 I2 hk => ⟨q2, I2, rfl, rfl, hk⟩), ?_⟩
  intro v h9 hv
  obtain ⟨q2, I2, rfl, rfl, hw⟩ := hv
  try dsimp only at hw
  refine am_E.run [1332] 200 (show (if q = q2 then (am_E S 304 (d + 60) cs ss 1332 [.retAddr 3, .ref 0, .ref 66, .int v3] [] (N, am_ts T, I2, L, am_rs r) Q) else (((0 : Int32) = 0 ∨ (0 : Int32) = 1) ∧ Q (some (.int 0)) (N, am_ts T, I2, L, am_rs r))) from ?_)
  refine am_ifp hw.1 ?_
  exact (hn _ _ _ _ _ hw.2).cs (by omega) (by omega)
/-- terms: the class, then the reference -/
def op_7 (x1 : Int32) (x2 : Int32) (P : Nat → (Nat → Nat × Nat) → (Nat → Nat → Option Nat) → am_I → am_J → Prop) (N : Nat) (T : Nat → Nat × Nat) (r : Nat → Nat → Option Nat) (I : am_I) (L : am_J) : Prop :=
  w_31 x1 x2 I (fun q I1 => w_197 x1 x2 I1 (fun q2 I2 => q = q2 ∧ P N T r I2 L))
set_option maxRecDepth 100000 in
theorem lc_7 {S : am_S} {d cs ss N : Nat} {T : Nat → Nat × Nat} {I : am_I} {L : am_J} {r : Nat → Nat → Option Nat} {Q : am_Q} {v3 : Int32} {P : Nat → (Nat → Nat × Nat) → (Nat → Nat → Option Nat) → am_I → am_J → Prop} (hb1 : ¬ ((v3 + 1) < 0 ∨ S.1 ≤ Int32.toNatClampNeg (v3 + 1))) (hb2 : ¬ ((v3 + 2) < 0 ∨ S.1 ≤ Int32.toNatClampNeg (v3 + 2))) (hcs : cs + 12 ≤ 10000) (hss : ss + 11333 ≤ 6000000) (hw : op_7 (S.2 (Int32.toNatClampNeg (v3 + 1))) (S.2 (Int32.toNatClampNeg (v3 + 2))) P N T r I L) (hn : ∀ N T r I L, P N T r I L → am_E S 304 (d + 60) (cs + 12) (ss + 11333) 1332 [.retAddr 3, .ref 0, .ref 66, .int v3] [] (N, am_ts T, I, L, am_rs r) Q) : am_E S 304 (d + 60) cs ss 477 [.retAddr 3, .ref 0, .ref 66, .int v3] [] (N, am_ts T, I, L, am_rs r) Q := by
  unfold op_7 at hw
  refine am_E.run [488] 200 (show (if (v3 + 1) < 0 ∨ S.1 ≤ Int32.toNatClampNeg (v3 + 1) then False else (if (v3 + 2) < 0 ∨ S.1 ≤ Int32.toNatClampNeg (v3 + 2) then False else (am_E S 304 (d + 60) cs ss 488 [.retAddr 3, .ref 0, .ref 66, .int v3] [.int (S.2 (Int32.toNatClampNeg (v3 + 2))), .int (S.2 (Int32.toNatClampNeg (v3 + 1))), .ref 0] (N, am_ts T, I, L, am_rs r) Q))) from ?_)
  refine am_ifn hb1 ?_
  refine am_ifn hb2 ?_
  refine am_E.go (show (if (am_cat [] ≤ 8 ∧ cs + am_mc 31 ≤ am_mc 304 ∧ ss + am_ms 31 ≤ am_ms 304 ∧ (am_en 31 [.ref 0, .int (S.2 (Int32.toNatClampNeg (v3 + 1))), .int (S.2 (Int32.toNatClampNeg (v3 + 2)))]).length = am_ml 31) then _ else False) from ?_)
  refine am_ifp ⟨(show 0 ≤ 8 by decide), (show cs + 0 ≤ 10000 by omega), (show ss + 0 ≤ 6000000 by omega), rfl⟩ ?_
  refine ⟨am_ki_I N T L r _, s_31 hw (fun q I1 hk => ⟨q, I1, rfl, rfl, hk⟩), ?_⟩
  intro v h9 hv
  obtain ⟨q, I1, rfl, rfl, hw⟩ := hv
  try dsimp only at hw
  refine am_E.run [502] 200 (show (if (v3 + 1) < 0 ∨ S.1 ≤ Int32.toNatClampNeg (v3 + 1) then False else (if (v3 + 2) < 0 ∨ S.1 ≤ Int32.toNatClampNeg (v3 + 2) then False else (am_E S 304 (d + 60) cs ss 502 [.retAddr 3, .ref 0, .ref 66, .int v3] [.int (S.2 (Int32.toNatClampNeg (v3 + 2))), .int (S.2 (Int32.toNatClampNeg (v3 + 1))), .ref 66, .int q] (N, am_ts T, I1, L, am_rs r) Q))) from ?_)
  refine am_ifn hb1 ?_
  refine am_ifn hb2 ?_
  refine am_E.go (show (if (am_cat [.int q] ≤ 8 ∧ cs + am_mc 197 ≤ am_mc 304 ∧ ss + am_ms 197 ≤ am_ms 304 ∧ (am_en 197 [.ref 66, .int (S.2 (Int32.toNatClampNeg (v3 + 1))), .int (S.2 (Int32.toNatClampNeg (v3 + 2)))]).length = am_ml 197) then _ else False) from ?_)
  refine am_ifp ⟨(show 1 ≤ 8 by decide), (show cs + 0 ≤ 10000 by omega), (show ss + 0 ≤ 6000000 by omega), rfl⟩ ?_
  refine ⟨am_ki_I N T L r _, s_197 hw (fun q2 I2 hk => ⟨q2, I2, rfl, rfl, hk⟩), ?_⟩
  intro v h9 hv
  obtain ⟨q2, I2, rfl, rfl, hw⟩ := hv
  try dsimp only at hw
  refine am_E.run [1332] 200 (show (if q = q2 then (am_E S 304 (d + 60) cs ss 1332 [.retAddr 3, .ref 0, .ref 66, .int v3] [] (N, am_ts T, I2, L, am_rs r) Q) else (((0 : Int32) = 0 ∨ (0 : Int32) = 1) ∧ Q (some (.int 0)) (N, am_ts T, I2, L, am_rs r))) from ?_)
  refine am_ifp hw.1 ?_
  exact (hn _ _ _ _ _ hw.2).cs (by omega) (by omega)
/-- feed: the class, then the reference -/
def op_8 (x1 : Int32) (x2 : Int32) (x3 : Int32) (x4 : Int32) (x5 : Int32) (P : Nat → (Nat → Nat × Nat) → (Nat → Nat → Option Nat) → am_I → am_J → Prop) (N : Nat) (T : Nat → Nat × Nat) (r : Nat → Nat → Option Nat) (I : am_I) (L : am_J) : Prop :=
  w_32 x1 x2 x3 x4 x5 I (fun q I1 => w_200 x1 x2 x3 x4 x5 I1 (fun q2 I2 => q = q2 ∧ P N T r I2 L))
set_option maxRecDepth 100000 in
theorem lc_8 {S : am_S} {d cs ss N : Nat} {T : Nat → Nat × Nat} {I : am_I} {L : am_J} {r : Nat → Nat → Option Nat} {Q : am_Q} {v3 : Int32} {P : Nat → (Nat → Nat × Nat) → (Nat → Nat → Option Nat) → am_I → am_J → Prop} (hb1 : ¬ ((v3 + 1) < 0 ∨ S.1 ≤ Int32.toNatClampNeg (v3 + 1))) (hb2 : ¬ ((v3 + 2) < 0 ∨ S.1 ≤ Int32.toNatClampNeg (v3 + 2))) (hb3 : ¬ ((v3 + 3) < 0 ∨ S.1 ≤ Int32.toNatClampNeg (v3 + 3))) (hb4 : ¬ ((v3 + 4) < 0 ∨ S.1 ≤ Int32.toNatClampNeg (v3 + 4))) (hb5 : ¬ ((v3 + 5) < 0 ∨ S.1 ≤ Int32.toNatClampNeg (v3 + 5))) (hcs : cs + 12 ≤ 10000) (hss : ss + 11333 ≤ 6000000) (hw : op_8 (S.2 (Int32.toNatClampNeg (v3 + 1))) (S.2 (Int32.toNatClampNeg (v3 + 2))) (S.2 (Int32.toNatClampNeg (v3 + 3))) (S.2 (Int32.toNatClampNeg (v3 + 4))) (S.2 (Int32.toNatClampNeg (v3 + 5))) P N T r I L) (hn : ∀ N T r I L, P N T r I L → am_E S 304 (d + 60) (cs + 12) (ss + 11333) 1332 [.retAddr 3, .ref 0, .ref 66, .int v3] [] (N, am_ts T, I, L, am_rs r) Q) : am_E S 304 (d + 60) cs ss 510 [.retAddr 3, .ref 0, .ref 66, .int v3] [] (N, am_ts T, I, L, am_rs r) Q := by
  unfold op_8 at hw
  refine am_E.run [536] 200 (show (if (v3 + 1) < 0 ∨ S.1 ≤ Int32.toNatClampNeg (v3 + 1) then False else (if (v3 + 2) < 0 ∨ S.1 ≤ Int32.toNatClampNeg (v3 + 2) then False else (if (v3 + 3) < 0 ∨ S.1 ≤ Int32.toNatClampNeg (v3 + 3) then False else (if (v3 + 4) < 0 ∨ S.1 ≤ Int32.toNatClampNeg (v3 + 4) then False else (if (v3 + 5) < 0 ∨ S.1 ≤ Int32.toNatClampNeg (v3 + 5) then False else (am_E S 304 (d + 60) cs ss 536 [.retAddr 3, .ref 0, .ref 66, .int v3] [.int (S.2 (Int32.toNatClampNeg (v3 + 5))), .int (S.2 (Int32.toNatClampNeg (v3 + 4))), .int (S.2 (Int32.toNatClampNeg (v3 + 3))), .int (S.2 (Int32.toNatClampNeg (v3 + 2))), .int (S.2 (Int32.toNatClampNeg (v3 + 1))), .ref 0] (N, am_ts T, I, L, am_rs r) Q)))))) from ?_)
  refine am_ifn hb1 ?_
  refine am_ifn hb2 ?_
  refine am_ifn hb3 ?_
  refine am_ifn hb4 ?_
  refine am_ifn hb5 ?_
  refine am_E.go (show (if (am_cat [] ≤ 8 ∧ cs + am_mc 32 ≤ am_mc 304 ∧ ss + am_ms 32 ≤ am_ms 304 ∧ (am_en 32 [.ref 0, .int (S.2 (Int32.toNatClampNeg (v3 + 1))), .int (S.2 (Int32.toNatClampNeg (v3 + 2))), .int (S.2 (Int32.toNatClampNeg (v3 + 3))), .int (S.2 (Int32.toNatClampNeg (v3 + 4))), .int (S.2 (Int32.toNatClampNeg (v3 + 5)))]).length = am_ml 32) then _ else False) from ?_)
  refine am_ifp ⟨(show 0 ≤ 8 by decide), (show cs + 0 ≤ 10000 by omega), (show ss + 0 ≤ 6000000 by omega), rfl⟩ ?_
  refine ⟨am_ki_I N T L r _, s_32 hw (fun q I1 hk => ⟨q, I1, rfl, rfl, hk⟩), ?_⟩
  intro v h9 hv
  obtain ⟨q, I1, rfl, rfl, hw⟩ := hv
  try dsimp only at hw
  refine am_E.run [565] 200 (show (if (v3 + 1) < 0 ∨ S.1 ≤ Int32.toNatClampNeg (v3 + 1) then False else (if (v3 + 2) < 0 ∨ S.1 ≤ Int32.toNatClampNeg (v3 + 2) then False else (if (v3 + 3) < 0 ∨ S.1 ≤ Int32.toNatClampNeg (v3 + 3) then False else (if (v3 + 4) < 0 ∨ S.1 ≤ Int32.toNatClampNeg (v3 + 4) then False else (if (v3 + 5) < 0 ∨ S.1 ≤ Int32.toNatClampNeg (v3 + 5) then False else (am_E S 304 (d + 60) cs ss 565 [.retAddr 3, .ref 0, .ref 66, .int v3] [.int (S.2 (Int32.toNatClampNeg (v3 + 5))), .int (S.2 (Int32.toNatClampNeg (v3 + 4))), .int (S.2 (Int32.toNatClampNeg (v3 + 3))), .int (S.2 (Int32.toNatClampNeg (v3 + 2))), .int (S.2 (Int32.toNatClampNeg (v3 + 1))), .ref 66, .int q] (N, am_ts T, I1, L, am_rs r) Q)))))) from ?_)
  refine am_ifn hb1 ?_
  refine am_ifn hb2 ?_
  refine am_ifn hb3 ?_
  refine am_ifn hb4 ?_
  refine am_ifn hb5 ?_
  refine am_E.go (show (if (am_cat [.int q] ≤ 8 ∧ cs + am_mc 200 ≤ am_mc 304 ∧ ss + am_ms 200 ≤ am_ms 304 ∧ (am_en 200 [.ref 66, .int (S.2 (Int32.toNatClampNeg (v3 + 1))), .int (S.2 (Int32.toNatClampNeg (v3 + 2))), .int (S.2 (Int32.toNatClampNeg (v3 + 3))), .int (S.2 (Int32.toNatClampNeg (v3 + 4))), .int (S.2 (Int32.toNatClampNeg (v3 + 5)))]).length = am_ml 200) then _ else False) from ?_)
  refine am_ifp ⟨(show 1 ≤ 8 by decide), (show cs + 0 ≤ 10000 by omega), (show ss + 0 ≤ 6000000 by omega), rfl⟩ ?_
  refine ⟨am_ki_I N T L r _, s_200 hw (fun q2 I2 hk => ⟨q2, I2, rfl, rfl, hk⟩), ?_⟩
  intro v h9 hv
  obtain ⟨q2, I2, rfl, rfl, hw⟩ := hv
  try dsimp only at hw
  refine am_E.run [1332] 200 (show (if q = q2 then (am_E S 304 (d + 60) cs ss 1332 [.retAddr 3, .ref 0, .ref 66, .int v3] [] (N, am_ts T, I2, L, am_rs r) Q) else (((0 : Int32) = 0 ∨ (0 : Int32) = 1) ∧ Q (some (.int 0)) (N, am_ts T, I2, L, am_rs r))) from ?_)
  refine am_ifp hw.1 ?_
  exact (hn _ _ _ _ _ hw.2).cs (by omega) (by omega)
/-- end: the class, then the reference -/
def op_9 (x1 : Int32) (P : Nat → (Nat → Nat × Nat) → (Nat → Nat → Option Nat) → am_I → am_J → Prop) (N : Nat) (T : Nat → Nat × Nat) (r : Nat → Nat → Option Nat) (I : am_I) (L : am_J) : Prop :=
  w_34 x1 I (fun q I1 => w_202 x1 I1 (fun q2 I2 => q = q2 ∧ P N T r I2 L))
set_option maxRecDepth 100000 in
theorem lc_9 {S : am_S} {d cs ss N : Nat} {T : Nat → Nat × Nat} {I : am_I} {L : am_J} {r : Nat → Nat → Option Nat} {Q : am_Q} {v3 : Int32} {P : Nat → (Nat → Nat × Nat) → (Nat → Nat → Option Nat) → am_I → am_J → Prop} (hb1 : ¬ ((v3 + 1) < 0 ∨ S.1 ≤ Int32.toNatClampNeg (v3 + 1))) (hcs : cs + 12 ≤ 10000) (hss : ss + 11333 ≤ 6000000) (hw : op_9 (S.2 (Int32.toNatClampNeg (v3 + 1))) P N T r I L) (hn : ∀ N T r I L, P N T r I L → am_E S 304 (d + 60) (cs + 12) (ss + 11333) 1332 [.retAddr 3, .ref 0, .ref 66, .int v3] [] (N, am_ts T, I, L, am_rs r) Q) : am_E S 304 (d + 60) cs ss 573 [.retAddr 3, .ref 0, .ref 66, .int v3] [] (N, am_ts T, I, L, am_rs r) Q := by
  unfold op_9 at hw
  refine am_E.run [579] 200 (show (if (v3 + 1) < 0 ∨ S.1 ≤ Int32.toNatClampNeg (v3 + 1) then False else (am_E S 304 (d + 60) cs ss 579 [.retAddr 3, .ref 0, .ref 66, .int v3] [.int (S.2 (Int32.toNatClampNeg (v3 + 1))), .ref 0] (N, am_ts T, I, L, am_rs r) Q)) from ?_)
  refine am_ifn hb1 ?_
  refine am_E.go (show (if (am_cat [] ≤ 8 ∧ cs + am_mc 34 ≤ am_mc 304 ∧ ss + am_ms 34 ≤ am_ms 304 ∧ (am_en 34 [.ref 0, .int (S.2 (Int32.toNatClampNeg (v3 + 1)))]).length = am_ml 34) then _ else False) from ?_)
  refine am_ifp ⟨(show 0 ≤ 8 by decide), (show cs + 0 ≤ 10000 by omega), (show ss + 0 ≤ 6000000 by omega), rfl⟩ ?_
  refine ⟨am_ki_I N T L r _, s_34 hw (fun q I1 hk => ⟨q, I1, rfl, rfl, hk⟩), ?_⟩
  intro v h9 hv
  obtain ⟨q, I1, rfl, rfl, hw⟩ := hv
  try dsimp only at hw
  refine am_E.run [588] 200 (show (if (v3 + 1) < 0 ∨ S.1 ≤ Int32.toNatClampNeg (v3 + 1) then False else (am_E S 304 (d + 60) cs ss 588 [.retAddr 3, .ref 0, .ref 66, .int v3] [.int (S.2 (Int32.toNatClampNeg (v3 + 1))), .ref 66, .int q] (N, am_ts T, I1, L, am_rs r) Q)) from ?_)
  refine am_ifn hb1 ?_
  refine am_E.go (show (if (am_cat [.int q] ≤ 8 ∧ cs + am_mc 202 ≤ am_mc 304 ∧ ss + am_ms 202 ≤ am_ms 304 ∧ (am_en 202 [.ref 66, .int (S.2 (Int32.toNatClampNeg (v3 + 1)))]).length = am_ml 202) then _ else False) from ?_)
  refine am_ifp ⟨(show 1 ≤ 8 by decide), (show cs + 0 ≤ 10000 by omega), (show ss + 0 ≤ 6000000 by omega), rfl⟩ ?_
  refine ⟨am_ki_I N T L r _, s_202 hw (fun q2 I2 hk => ⟨q2, I2, rfl, rfl, hk⟩), ?_⟩
  intro v h9 hv
  obtain ⟨q2, I2, rfl, rfl, hw⟩ := hv
  try dsimp only at hw
  refine am_E.run [1332] 200 (show (if q = q2 then (am_E S 304 (d + 60) cs ss 1332 [.retAddr 3, .ref 0, .ref 66, .int v3] [] (N, am_ts T, I2, L, am_rs r) Q) else (((0 : Int32) = 0 ∨ (0 : Int32) = 1) ∧ Q (some (.int 0)) (N, am_ts T, I2, L, am_rs r))) from ?_)
  refine am_ifp hw.1 ?_
  exact (hn _ _ _ _ _ hw.2).cs (by omega) (by omega)
/-- row: the class, then the reference -/
def op_10 (P : Nat → (Nat → Nat × Nat) → (Nat → Nat → Option Nat) → am_I → am_J → Prop) (N : Nat) (T : Nat → Nat × Nat) (r : Nat → Nat → Option Nat) (I : am_I) (L : am_J) : Prop :=
  w_35 I (fun q I1 => w_198 I1 (fun q2 I2 => q = q2 ∧ P N T r I2 L))
set_option maxRecDepth 100000 in
theorem lc_10 {S : am_S} {d cs ss N : Nat} {T : Nat → Nat × Nat} {I : am_I} {L : am_J} {r : Nat → Nat → Option Nat} {Q : am_Q} {v3 : Int32} {P : Nat → (Nat → Nat × Nat) → (Nat → Nat → Option Nat) → am_I → am_J → Prop} (hcs : cs + 12 ≤ 10000) (hss : ss + 11333 ≤ 6000000) (hw : op_10 P N T r I L) (hn : ∀ N T r I L, P N T r I L → am_E S 304 (d + 60) (cs + 12) (ss + 11333) 1332 [.retAddr 3, .ref 0, .ref 66, .int v3] [] (N, am_ts T, I, L, am_rs r) Q) : am_E S 304 (d + 60) cs ss 596 [.retAddr 3, .ref 0, .ref 66, .int v3] [] (N, am_ts T, I, L, am_rs r) Q := by
  unfold op_10 at hw
  refine am_E.run [597] 200 (show (am_E S 304 (d + 60) cs ss 597 [.retAddr 3, .ref 0, .ref 66, .int v3] [.ref 0] (N, am_ts T, I, L, am_rs r) Q) from ?_)
  refine am_E.go (show (if (am_cat [] ≤ 8 ∧ cs + am_mc 35 ≤ am_mc 304 ∧ ss + am_ms 35 ≤ am_ms 304 ∧ (am_en 35 [.ref 0]).length = am_ml 35) then _ else False) from ?_)
  refine am_ifp ⟨(show 0 ≤ 8 by decide), (show cs + 0 ≤ 10000 by omega), (show ss + 0 ≤ 6000000 by omega), rfl⟩ ?_
  refine ⟨am_ki_I N T L r _, s_35 hw (fun q I1 hk => ⟨q, I1, rfl, rfl, hk⟩), ?_⟩
  intro v h9 hv
  obtain ⟨q, I1, rfl, rfl, hw⟩ := hv
  try dsimp only at hw
  refine am_E.run [601] 200 (show (am_E S 304 (d + 60) cs ss 601 [.retAddr 3, .ref 0, .ref 66, .int v3] [.ref 66, .int q] (N, am_ts T, I1, L, am_rs r) Q) from ?_)
  refine am_E.go (show (if (am_cat [.int q] ≤ 8 ∧ cs + am_mc 198 ≤ am_mc 304 ∧ ss + am_ms 198 ≤ am_ms 304 ∧ (am_en 198 [.ref 66]).length = am_ml 198) then _ else False) from ?_)
  refine am_ifp ⟨(show 1 ≤ 8 by decide), (show cs + 0 ≤ 10000 by omega), (show ss + 0 ≤ 6000000 by omega), rfl⟩ ?_
  refine ⟨am_ki_I N T L r _, s_198 hw (fun q2 I2 hk => ⟨q2, I2, rfl, rfl, hk⟩), ?_⟩
  intro v h9 hv
  obtain ⟨q2, I2, rfl, rfl, hw⟩ := hv
  try dsimp only at hw
  refine am_E.run [1332] 200 (show (if q = q2 then (am_E S 304 (d + 60) cs ss 1332 [.retAddr 3, .ref 0, .ref 66, .int v3] [] (N, am_ts T, I2, L, am_rs r) Q) else (((0 : Int32) = 0 ∨ (0 : Int32) = 1) ∧ Q (some (.int 0)) (N, am_ts T, I2, L, am_rs r))) from ?_)
  refine am_ifp hw.1 ?_
  exact (hn _ _ _ _ _ hw.2).cs (by omega) (by omega)
/-- rats: the class, then the reference -/
def op_11 (P : Nat → (Nat → Nat × Nat) → (Nat → Nat → Option Nat) → am_I → am_J → Prop) (N : Nat) (T : Nat → Nat × Nat) (r : Nat → Nat → Option Nat) (I : am_I) (L : am_J) : Prop :=
  w_199 I (fun q2 I2 => (f_37 I) = q2 ∧ P N T r I2 L)
set_option maxRecDepth 100000 in
theorem lc_11 {S : am_S} {d cs ss N : Nat} {T : Nat → Nat × Nat} {I : am_I} {L : am_J} {r : Nat → Nat → Option Nat} {Q : am_Q} {v3 : Int32} {P : Nat → (Nat → Nat × Nat) → (Nat → Nat → Option Nat) → am_I → am_J → Prop} (hcs : cs + 12 ≤ 10000) (hss : ss + 11333 ≤ 6000000) (hw : op_11 P N T r I L) (hn : ∀ N T r I L, P N T r I L → am_E S 304 (d + 60) (cs + 12) (ss + 11333) 1332 [.retAddr 3, .ref 0, .ref 66, .int v3] [] (N, am_ts T, I, L, am_rs r) Q) : am_E S 304 (d + 60) cs ss 609 [.retAddr 3, .ref 0, .ref 66, .int v3] [] (N, am_ts T, I, L, am_rs r) Q := by
  unfold op_11 at hw
  refine am_E.run [610] 200 (show (am_E S 304 (d + 60) cs ss 610 [.retAddr 3, .ref 0, .ref 66, .int v3] [.ref 0] (N, am_ts T, I, L, am_rs r) Q) from ?_)
  refine am_E.go (show (if (am_cat [] ≤ 8 ∧ cs + am_mc 37 ≤ am_mc 304 ∧ ss + am_ms 37 ≤ am_ms 304 ∧ (am_en 37 [.ref 0]).length = am_ml 37) then _ else False) from ?_)
  refine am_ifp ⟨(show 0 ≤ 8 by decide), (show cs + 0 ≤ 10000 by omega), (show ss + 0 ≤ 6000000 by omega), rfl⟩ ?_
  refine ⟨fun v h9 => v = some (.int (f_37 I)) ∧ h9 = (N, am_ts T, I, L, am_rs r), s_37 ⟨rfl, rfl⟩, ?_⟩
  intro v h9 hv
  obtain ⟨rfl, rfl⟩ := hv
  refine am_E.run [614] 200 (show (am_E S 304 (d + 60) cs ss 614 [.retAddr 3, .ref 0, .ref 66, .int v3] [.ref 66, .int (f_37 I)] (N, am_ts T, I, L, am_rs r) Q) from ?_)
  refine am_E.go (show (if (am_cat [.int (f_37 I)] ≤ 8 ∧ cs + am_mc 199 ≤ am_mc 304 ∧ ss + am_ms 199 ≤ am_ms 304 ∧ (am_en 199 [.ref 66]).length = am_ml 199) then _ else False) from ?_)
  refine am_ifp ⟨(show 1 ≤ 8 by decide), (show cs + 0 ≤ 10000 by omega), (show ss + 0 ≤ 6000000 by omega), rfl⟩ ?_
  refine ⟨am_ki_I N T L r _, s_199 hw (fun q2 I2 hk => ⟨q2, I2, rfl, rfl, hk⟩), ?_⟩
  intro v h9 hv
  obtain ⟨q2, I2, rfl, rfl, hw⟩ := hv
  try dsimp only at hw
  refine am_E.run [1332] 200 (show (if (f_37 I) = q2 then (am_E S 304 (d + 60) cs ss 1332 [.retAddr 3, .ref 0, .ref 66, .int v3] [] (N, am_ts T, I2, L, am_rs r) Q) else (((0 : Int32) = 0 ∨ (0 : Int32) = 1) ∧ Q (some (.int 0)) (N, am_ts T, I2, L, am_rs r))) from ?_)
  refine am_ifp hw.1 ?_
  exact (hn _ _ _ _ _ hw.2).cs (by omega) (by omega)
/-- law: the class, then the reference -/
def op_12 (P : Nat → (Nat → Nat × Nat) → (Nat → Nat → Option Nat) → am_I → am_J → Prop) (N : Nat) (T : Nat → Nat × Nat) (r : Nat → Nat → Option Nat) (I : am_I) (L : am_J) : Prop :=
  w_38 N T r I L (fun q N1 T1 r1 I1 L1 => w_204 I1 L1 (fun q2 I2 L2 => q = q2 ∧ P N1 T1 r1 I2 L2))
set_option maxRecDepth 100000 in
theorem lc_12 {S : am_S} {d cs ss N : Nat} {T : Nat → Nat × Nat} {I : am_I} {L : am_J} {r : Nat → Nat → Option Nat} {Q : am_Q} {v3 : Int32} {P : Nat → (Nat → Nat × Nat) → (Nat → Nat → Option Nat) → am_I → am_J → Prop} (hcs : cs + 12 ≤ 10000) (hss : ss + 11333 ≤ 6000000) (hw : op_12 P N T r I L) (hn : ∀ N T r I L, P N T r I L → am_E S 304 (d + 60) (cs + 12) (ss + 11333) 1332 [.retAddr 3, .ref 0, .ref 66, .int v3] [] (N, am_ts T, I, L, am_rs r) Q) : am_E S 304 (d + 60) cs ss 622 [.retAddr 3, .ref 0, .ref 66, .int v3] [] (N, am_ts T, I, L, am_rs r) Q := by
  unfold op_12 at hw
  refine am_E.run [623] 200 (show (am_E S 304 (d + 60) cs ss 623 [.retAddr 3, .ref 0, .ref 66, .int v3] [.ref 0] (N, am_ts T, I, L, am_rs r) Q) from ?_)
  refine am_E.go (show (if (am_cat [] ≤ 8 ∧ cs + am_mc 38 ≤ am_mc 304 ∧ ss + am_ms 38 ≤ am_ms 304 ∧ (am_en 38 [.ref 0]).length = am_ml 38) then _ else False) from ?_)
  refine am_ifp ⟨(show 0 ≤ 8 by decide), (show cs + 5 ≤ 10000 by omega), (show ss + 490 ≤ 6000000 by omega), rfl⟩ ?_
  refine ⟨am_ki_NTrIL _, s_38 hw (fun q N1 T1 r1 I1 L1 hk => ⟨q, N1, T1, r1, I1, L1, rfl, rfl, hk⟩), ?_⟩
  intro v h9 hv
  obtain ⟨q, N1, T1, r1, I1, L1, rfl, rfl, hw⟩ := hv
  try dsimp only at hw
  refine am_E.run [627] 200 (show (am_E S 304 (d + 60) (cs + 5) (ss + 490) 627 [.retAddr 3, .ref 0, .ref 66, .int v3] [.ref 66, .int q] (N1, am_ts T1, I1, L1, am_rs r1) Q) from ?_)
  refine am_E.go (show (if (am_cat [.int q] ≤ 8 ∧ (cs + 5) + am_mc 204 ≤ am_mc 304 ∧ (ss + 490) + am_ms 204 ≤ am_ms 304 ∧ (am_en 204 [.ref 66]).length = am_ml 204) then _ else False) from ?_)
  refine am_ifp ⟨(show 1 ≤ 8 by decide), (show (cs + 5) + 0 ≤ 10000 by omega), (show (ss + 490) + 0 ≤ 6000000 by omega), rfl⟩ ?_
  refine ⟨am_ki_IL N1 T1 r1 _, s_204 hw (fun q2 I2 L2 hk => ⟨q2, I2, L2, rfl, rfl, hk⟩), ?_⟩
  intro v h9 hv
  obtain ⟨q2, I2, L2, rfl, rfl, hw⟩ := hv
  try dsimp only at hw
  refine am_E.run [1332] 200 (show (if q = q2 then (am_E S 304 (d + 60) (cs + 5) (ss + 490) 1332 [.retAddr 3, .ref 0, .ref 66, .int v3] [] (N1, am_ts T1, I2, L2, am_rs r1) Q) else (((0 : Int32) = 0 ∨ (0 : Int32) = 1) ∧ Q (some (.int 0)) (N1, am_ts T1, I2, L2, am_rs r1))) from ?_)
  refine am_ifp hw.1 ?_
  exact (hn _ _ _ _ _ hw.2).cs (by omega) (by omega)
/-- orders: the class, then the reference -/
def op_13 (P : Nat → (Nat → Nat × Nat) → (Nat → Nat → Option Nat) → am_I → am_J → Prop) (N : Nat) (T : Nat → Nat × Nat) (r : Nat → Nat → Option Nat) (I : am_I) (L : am_J) : Prop :=
  w_78 N T r I (fun q N1 T1 r1 I1 => w_291 I1 L (fun q2 I2 L2 => q = q2 ∧ P N1 T1 r1 I2 L2))
set_option maxRecDepth 100000 in
theorem lc_13 {S : am_S} {d cs ss N : Nat} {T : Nat → Nat × Nat} {I : am_I} {L : am_J} {r : Nat → Nat → Option Nat} {Q : am_Q} {v3 : Int32} {P : Nat → (Nat → Nat × Nat) → (Nat → Nat → Option Nat) → am_I → am_J → Prop} (hcs : cs + 12 ≤ 10000) (hss : ss + 11333 ≤ 6000000) (hw : op_13 P N T r I L) (hn : ∀ N T r I L, P N T r I L → am_E S 304 (d + 60) (cs + 12) (ss + 11333) 1332 [.retAddr 3, .ref 0, .ref 66, .int v3] [] (N, am_ts T, I, L, am_rs r) Q) : am_E S 304 (d + 60) cs ss 635 [.retAddr 3, .ref 0, .ref 66, .int v3] [] (N, am_ts T, I, L, am_rs r) Q := by
  unfold op_13 at hw
  refine am_E.run [636] 200 (show (am_E S 304 (d + 60) cs ss 636 [.retAddr 3, .ref 0, .ref 66, .int v3] [.ref 0] (N, am_ts T, I, L, am_rs r) Q) from ?_)
  refine am_E.go (show (if (am_cat [] ≤ 8 ∧ cs + am_mc 78 ≤ am_mc 304 ∧ ss + am_ms 78 ≤ am_ms 304 ∧ (am_en 78 [.ref 0]).length = am_ml 78) then _ else False) from ?_)
  refine am_ifp ⟨(show 0 ≤ 8 by decide), (show cs + 0 ≤ 10000 by omega), (show ss + 0 ≤ 6000000 by omega), rfl⟩ ?_
  refine ⟨am_ki_NTrI L _, s_78 hw (fun q N1 T1 r1 I1 hk => ⟨q, N1, T1, r1, I1, rfl, rfl, hk⟩), ?_⟩
  intro v h9 hv
  obtain ⟨q, N1, T1, r1, I1, rfl, rfl, hw⟩ := hv
  try dsimp only at hw
  refine am_E.run [640] 200 (show (am_E S 304 (d + 60) cs ss 640 [.retAddr 3, .ref 0, .ref 66, .int v3] [.ref 66, .int q] (N1, am_ts T1, I1, L, am_rs r1) Q) from ?_)
  refine am_E.go (show (if (am_cat [.int q] ≤ 8 ∧ cs + am_mc 291 ≤ am_mc 304 ∧ ss + am_ms 291 ≤ am_ms 304 ∧ (am_en 291 [.ref 66]).length = am_ml 291) then _ else False) from ?_)
  refine am_ifp ⟨(show 1 ≤ 8 by decide), (show cs + 0 ≤ 10000 by omega), (show ss + 0 ≤ 6000000 by omega), rfl⟩ ?_
  refine ⟨am_ki_IL N1 T1 r1 _, s_291 hw (fun q2 I2 L2 hk => ⟨q2, I2, L2, rfl, rfl, hk⟩), ?_⟩
  intro v h9 hv
  obtain ⟨q2, I2, L2, rfl, rfl, hw⟩ := hv
  try dsimp only at hw
  refine am_E.run [1332] 200 (show (if q = q2 then (am_E S 304 (d + 60) cs ss 1332 [.retAddr 3, .ref 0, .ref 66, .int v3] [] (N1, am_ts T1, I2, L2, am_rs r1) Q) else (((0 : Int32) = 0 ∨ (0 : Int32) = 1) ∧ Q (some (.int 0)) (N1, am_ts T1, I2, L2, am_rs r1))) from ?_)
  refine am_ifp hw.1 ?_
  exact (hn _ _ _ _ _ hw.2).cs (by omega) (by omega)
/-- fault: the class, then the reference -/
def op_14 (P : Nat → (Nat → Nat × Nat) → (Nat → Nat → Option Nat) → am_I → am_J → Prop) (N : Nat) (T : Nat → Nat × Nat) (r : Nat → Nat → Option Nat) (I : am_I) (L : am_J) : Prop :=
  w_203 I (fun q2 I2 => (f_103 I) = q2 ∧ P N T r I2 L)
set_option maxRecDepth 100000 in
theorem lc_14 {S : am_S} {d cs ss N : Nat} {T : Nat → Nat × Nat} {I : am_I} {L : am_J} {r : Nat → Nat → Option Nat} {Q : am_Q} {v3 : Int32} {P : Nat → (Nat → Nat × Nat) → (Nat → Nat → Option Nat) → am_I → am_J → Prop} (hcs : cs + 12 ≤ 10000) (hss : ss + 11333 ≤ 6000000) (hw : op_14 P N T r I L) (hn : ∀ N T r I L, P N T r I L → am_E S 304 (d + 60) (cs + 12) (ss + 11333) 1332 [.retAddr 3, .ref 0, .ref 66, .int v3] [] (N, am_ts T, I, L, am_rs r) Q) : am_E S 304 (d + 60) cs ss 648 [.retAddr 3, .ref 0, .ref 66, .int v3] [] (N, am_ts T, I, L, am_rs r) Q := by
  unfold op_14 at hw
  refine am_E.run [649] 200 (show (am_E S 304 (d + 60) cs ss 649 [.retAddr 3, .ref 0, .ref 66, .int v3] [.ref 0] (N, am_ts T, I, L, am_rs r) Q) from ?_)
  refine am_E.go (show (if (am_cat [] ≤ 8 ∧ cs + am_mc 103 ≤ am_mc 304 ∧ ss + am_ms 103 ≤ am_ms 304 ∧ (am_en 103 [.ref 0]).length = am_ml 103) then _ else False) from ?_)
  refine am_ifp ⟨(show 0 ≤ 8 by decide), (show cs + 0 ≤ 10000 by omega), (show ss + 0 ≤ 6000000 by omega), rfl⟩ ?_
  refine ⟨fun v h9 => v = some (.int (f_103 I)) ∧ h9 = (N, am_ts T, I, L, am_rs r), s_103 ⟨rfl, rfl⟩, ?_⟩
  intro v h9 hv
  obtain ⟨rfl, rfl⟩ := hv
  refine am_E.run [653] 200 (show (am_E S 304 (d + 60) cs ss 653 [.retAddr 3, .ref 0, .ref 66, .int v3] [.ref 66, .int (f_103 I)] (N, am_ts T, I, L, am_rs r) Q) from ?_)
  refine am_E.go (show (if (am_cat [.int (f_103 I)] ≤ 8 ∧ cs + am_mc 203 ≤ am_mc 304 ∧ ss + am_ms 203 ≤ am_ms 304 ∧ (am_en 203 [.ref 66]).length = am_ml 203) then _ else False) from ?_)
  refine am_ifp ⟨(show 1 ≤ 8 by decide), (show cs + 0 ≤ 10000 by omega), (show ss + 0 ≤ 6000000 by omega), rfl⟩ ?_
  refine ⟨am_ki_I N T L r _, s_203 hw (fun q2 I2 hk => ⟨q2, I2, rfl, rfl, hk⟩), ?_⟩
  intro v h9 hv
  obtain ⟨q2, I2, rfl, rfl, hw⟩ := hv
  try dsimp only at hw
  refine am_E.run [1332] 200 (show (if (f_103 I) = q2 then (am_E S 304 (d + 60) cs ss 1332 [.retAddr 3, .ref 0, .ref 66, .int v3] [] (N, am_ts T, I2, L, am_rs r) Q) else (((0 : Int32) = 0 ∨ (0 : Int32) = 1) ∧ Q (some (.int 0)) (N, am_ts T, I2, L, am_rs r))) from ?_)
  refine am_ifp hw.1 ?_
  exact (hn _ _ _ _ _ hw.2).cs (by omega) (by omega)
/-- stopped: the class, then the reference -/
def op_15 (P : Nat → (Nat → Nat × Nat) → (Nat → Nat → Option Nat) → am_I → am_J → Prop) (N : Nat) (T : Nat → Nat × Nat) (r : Nat → Nat → Option Nat) (I : am_I) (L : am_J) : Prop :=
  w_298 I (fun q2 I2 => (f_104 I) = q2 ∧ P N T r I2 L)
set_option maxRecDepth 100000 in
theorem lc_15 {S : am_S} {d cs ss N : Nat} {T : Nat → Nat × Nat} {I : am_I} {L : am_J} {r : Nat → Nat → Option Nat} {Q : am_Q} {v3 : Int32} {P : Nat → (Nat → Nat × Nat) → (Nat → Nat → Option Nat) → am_I → am_J → Prop} (hcs : cs + 12 ≤ 10000) (hss : ss + 11333 ≤ 6000000) (hw : op_15 P N T r I L) (hn : ∀ N T r I L, P N T r I L → am_E S 304 (d + 60) (cs + 12) (ss + 11333) 1332 [.retAddr 3, .ref 0, .ref 66, .int v3] [] (N, am_ts T, I, L, am_rs r) Q) : am_E S 304 (d + 60) cs ss 661 [.retAddr 3, .ref 0, .ref 66, .int v3] [] (N, am_ts T, I, L, am_rs r) Q := by
  unfold op_15 at hw
  refine am_E.run [662] 200 (show (am_E S 304 (d + 60) cs ss 662 [.retAddr 3, .ref 0, .ref 66, .int v3] [.ref 0] (N, am_ts T, I, L, am_rs r) Q) from ?_)
  refine am_E.go (show (if (am_cat [] ≤ 8 ∧ cs + am_mc 104 ≤ am_mc 304 ∧ ss + am_ms 104 ≤ am_ms 304 ∧ (am_en 104 [.ref 0]).length = am_ml 104) then _ else False) from ?_)
  refine am_ifp ⟨(show 0 ≤ 8 by decide), (show cs + 0 ≤ 10000 by omega), (show ss + 0 ≤ 6000000 by omega), rfl⟩ ?_
  refine ⟨fun v h9 => v = some (.int (f_104 I)) ∧ h9 = (N, am_ts T, I, L, am_rs r), s_104 ⟨rfl, rfl⟩, ?_⟩
  intro v h9 hv
  obtain ⟨rfl, rfl⟩ := hv
  refine am_E.run [666] 200 (show (am_E S 304 (d + 60) cs ss 666 [.retAddr 3, .ref 0, .ref 66, .int v3] [.ref 66, .int (f_104 I)] (N, am_ts T, I, L, am_rs r) Q) from ?_)
  refine am_E.go (show (if (am_cat [.int (f_104 I)] ≤ 8 ∧ cs + am_mc 298 ≤ am_mc 304 ∧ ss + am_ms 298 ≤ am_ms 304 ∧ (am_en 298 [.ref 66]).length = am_ml 298) then _ else False) from ?_)
  refine am_ifp ⟨(show 1 ≤ 8 by decide), (show cs + 0 ≤ 10000 by omega), (show ss + 0 ≤ 6000000 by omega), rfl⟩ ?_
  refine ⟨am_ki_I N T L r _, s_298 hw (fun q2 I2 hk => ⟨q2, I2, rfl, rfl, hk⟩), ?_⟩
  intro v h9 hv
  obtain ⟨q2, I2, rfl, rfl, hw⟩ := hv
  try dsimp only at hw
  refine am_E.run [1332] 200 (show (if (f_104 I) = q2 then (am_E S 304 (d + 60) cs ss 1332 [.retAddr 3, .ref 0, .ref 66, .int v3] [] (N, am_ts T, I2, L, am_rs r) Q) else (((0 : Int32) = 0 ∨ (0 : Int32) = 1) ∧ Q (some (.int 0)) (N, am_ts T, I2, L, am_rs r))) from ?_)
  refine am_ifp hw.1 ?_
  exact (hn _ _ _ _ _ hw.2).cs (by omega) (by omega)
/-- force: the class, then the reference -/
def op_16 (x1 : Int32) (P : Nat → (Nat → Nat × Nat) → (Nat → Nat → Option Nat) → am_I → am_J → Prop) (N : Nat) (T : Nat → Nat × Nat) (r : Nat → Nat → Option Nat) (I : am_I) (L : am_J) : Prop :=
  w_105 x1 I (fun q I1 => w_231 x1 I1 (fun q2 I2 => q = q2 ∧ P N T r I2 L))
set_option maxRecDepth 100000 in
theorem lc_16 {S : am_S} {d cs ss N : Nat} {T : Nat → Nat × Nat} {I : am_I} {L : am_J} {r : Nat → Nat → Option Nat} {Q : am_Q} {v3 : Int32} {P : Nat → (Nat → Nat × Nat) → (Nat → Nat → Option Nat) → am_I → am_J → Prop} (hb1 : ¬ ((v3 + 1) < 0 ∨ S.1 ≤ Int32.toNatClampNeg (v3 + 1))) (hcs : cs + 12 ≤ 10000) (hss : ss + 11333 ≤ 6000000) (hw : op_16 (S.2 (Int32.toNatClampNeg (v3 + 1))) P N T r I L) (hn : ∀ N T r I L, P N T r I L → am_E S 304 (d + 60) (cs + 12) (ss + 11333) 1332 [.retAddr 3, .ref 0, .ref 66, .int v3] [] (N, am_ts T, I, L, am_rs r) Q) : am_E S 304 (d + 60) cs ss 674 [.retAddr 3, .ref 0, .ref 66, .int v3] [] (N, am_ts T, I, L, am_rs r) Q := by
  unfold op_16 at hw
  refine am_E.run [680] 200 (show (if (v3 + 1) < 0 ∨ S.1 ≤ Int32.toNatClampNeg (v3 + 1) then False else (am_E S 304 (d + 60) cs ss 680 [.retAddr 3, .ref 0, .ref 66, .int v3] [.int (S.2 (Int32.toNatClampNeg (v3 + 1))), .ref 0] (N, am_ts T, I, L, am_rs r) Q)) from ?_)
  refine am_ifn hb1 ?_
  refine am_E.go (show (if (am_cat [] ≤ 8 ∧ cs + am_mc 105 ≤ am_mc 304 ∧ ss + am_ms 105 ≤ am_ms 304 ∧ (am_en 105 [.ref 0, .int (S.2 (Int32.toNatClampNeg (v3 + 1)))]).length = am_ml 105) then _ else False) from ?_)
  refine am_ifp ⟨(show 0 ≤ 8 by decide), (show cs + 0 ≤ 10000 by omega), (show ss + 0 ≤ 6000000 by omega), rfl⟩ ?_
  refine ⟨am_ki_I N T L r _, s_105 hw (fun q I1 hk => ⟨q, I1, rfl, rfl, hk⟩), ?_⟩
  intro v h9 hv
  obtain ⟨q, I1, rfl, rfl, hw⟩ := hv
  try dsimp only at hw
  refine am_E.run [689] 200 (show (if (v3 + 1) < 0 ∨ S.1 ≤ Int32.toNatClampNeg (v3 + 1) then False else (am_E S 304 (d + 60) cs ss 689 [.retAddr 3, .ref 0, .ref 66, .int v3] [.int (S.2 (Int32.toNatClampNeg (v3 + 1))), .ref 66, .int q] (N, am_ts T, I1, L, am_rs r) Q)) from ?_)
  refine am_ifn hb1 ?_
  refine am_E.go (show (if (am_cat [.int q] ≤ 8 ∧ cs + am_mc 231 ≤ am_mc 304 ∧ ss + am_ms 231 ≤ am_ms 304 ∧ (am_en 231 [.ref 66, .int (S.2 (Int32.toNatClampNeg (v3 + 1)))]).length = am_ml 231) then _ else False) from ?_)
  refine am_ifp ⟨(show 1 ≤ 8 by decide), (show cs + 0 ≤ 10000 by omega), (show ss + 0 ≤ 6000000 by omega), rfl⟩ ?_
  refine ⟨am_ki_I N T L r _, s_231 hw (fun q2 I2 hk => ⟨q2, I2, rfl, rfl, hk⟩), ?_⟩
  intro v h9 hv
  obtain ⟨q2, I2, rfl, rfl, hw⟩ := hv
  try dsimp only at hw
  refine am_E.run [1332] 200 (show (if q = q2 then (am_E S 304 (d + 60) cs ss 1332 [.retAddr 3, .ref 0, .ref 66, .int v3] [] (N, am_ts T, I2, L, am_rs r) Q) else (((0 : Int32) = 0 ∨ (0 : Int32) = 1) ∧ Q (some (.int 0)) (N, am_ts T, I2, L, am_rs r))) from ?_)
  refine am_ifp hw.1 ?_
  exact (hn _ _ _ _ _ hw.2).cs (by omega) (by omega)
/-- asks: the class, then the reference -/
def op_17 (x1 : Int32) (x2 : Int32) (x3 : Int32) (P : Nat → (Nat → Nat × Nat) → (Nat → Nat → Option Nat) → am_I → am_J → Prop) (N : Nat) (T : Nat → Nat × Nat) (r : Nat → Nat → Option Nat) (I : am_I) (L : am_J) : Prop :=
  w_107 x1 x2 x3 T r I (fun q I1 => w_233 x1 x2 x3 I1 L (fun q2 I2 L2 => q = q2 ∧ P N T r I2 L2))
set_option maxRecDepth 100000 in
theorem lc_17 {S : am_S} {d cs ss N : Nat} {T : Nat → Nat × Nat} {I : am_I} {L : am_J} {r : Nat → Nat → Option Nat} {Q : am_Q} {v3 : Int32} {P : Nat → (Nat → Nat × Nat) → (Nat → Nat → Option Nat) → am_I → am_J → Prop} (hb1 : ¬ ((v3 + 1) < 0 ∨ S.1 ≤ Int32.toNatClampNeg (v3 + 1))) (hb2 : ¬ ((v3 + 2) < 0 ∨ S.1 ≤ Int32.toNatClampNeg (v3 + 2))) (hb3 : ¬ ((v3 + 3) < 0 ∨ S.1 ≤ Int32.toNatClampNeg (v3 + 3))) (hcs : cs + 12 ≤ 10000) (hss : ss + 11333 ≤ 6000000) (hw : op_17 (S.2 (Int32.toNatClampNeg (v3 + 1))) (S.2 (Int32.toNatClampNeg (v3 + 2))) (S.2 (Int32.toNatClampNeg (v3 + 3))) P N T r I L) (hn : ∀ N T r I L, P N T r I L → am_E S 304 (d + 60) (cs + 12) (ss + 11333) 1332 [.retAddr 3, .ref 0, .ref 66, .int v3] [] (N, am_ts T, I, L, am_rs r) Q) : am_E S 304 (d + 60) cs ss 697 [.retAddr 3, .ref 0, .ref 66, .int v3] [] (N, am_ts T, I, L, am_rs r) Q := by
  unfold op_17 at hw
  refine am_E.run [713] 200 (show (if (v3 + 1) < 0 ∨ S.1 ≤ Int32.toNatClampNeg (v3 + 1) then False else (if (v3 + 2) < 0 ∨ S.1 ≤ Int32.toNatClampNeg (v3 + 2) then False else (if (v3 + 3) < 0 ∨ S.1 ≤ Int32.toNatClampNeg (v3 + 3) then False else (am_E S 304 (d + 60) cs ss 713 [.retAddr 3, .ref 0, .ref 66, .int v3] [.int (S.2 (Int32.toNatClampNeg (v3 + 3))), .int (S.2 (Int32.toNatClampNeg (v3 + 2))), .int (S.2 (Int32.toNatClampNeg (v3 + 1))), .ref 0] (N, am_ts T, I, L, am_rs r) Q)))) from ?_)
  refine am_ifn hb1 ?_
  refine am_ifn hb2 ?_
  refine am_ifn hb3 ?_
  refine am_E.go (show (if (am_cat [] ≤ 8 ∧ cs + am_mc 107 ≤ am_mc 304 ∧ ss + am_ms 107 ≤ am_ms 304 ∧ (am_en 107 [.ref 0, .int (S.2 (Int32.toNatClampNeg (v3 + 1))), .int (S.2 (Int32.toNatClampNeg (v3 + 2))), .int (S.2 (Int32.toNatClampNeg (v3 + 3)))]).length = am_ml 107) then _ else False) from ?_)
  refine am_ifp ⟨(show 0 ≤ 8 by decide), (show cs + 0 ≤ 10000 by omega), (show ss + 0 ≤ 6000000 by omega), rfl⟩ ?_
  refine ⟨am_ki_I N T L r _, s_107 hw (fun q I1 hk => ⟨q, I1, rfl, rfl, hk⟩), ?_⟩
  intro v h9 hv
  obtain ⟨q, I1, rfl, rfl, hw⟩ := hv
  try dsimp only at hw
  refine am_E.run [732] 200 (show (if (v3 + 1) < 0 ∨ S.1 ≤ Int32.toNatClampNeg (v3 + 1) then False else (if (v3 + 2) < 0 ∨ S.1 ≤ Int32.toNatClampNeg (v3 + 2) then False else (if (v3 + 3) < 0 ∨ S.1 ≤ Int32.toNatClampNeg (v3 + 3) then False else (am_E S 304 (d + 60) cs ss 732 [.retAddr 3, .ref 0, .ref 66, .int v3] [.int (S.2 (Int32.toNatClampNeg (v3 + 3))), .int (S.2 (Int32.toNatClampNeg (v3 + 2))), .int (S.2 (Int32.toNatClampNeg (v3 + 1))), .ref 66, .int q] (N, am_ts T, I1, L, am_rs r) Q)))) from ?_)
  refine am_ifn hb1 ?_
  refine am_ifn hb2 ?_
  refine am_ifn hb3 ?_
  refine am_E.go (show (if (am_cat [.int q] ≤ 8 ∧ cs + am_mc 233 ≤ am_mc 304 ∧ ss + am_ms 233 ≤ am_ms 304 ∧ (am_en 233 [.ref 66, .int (S.2 (Int32.toNatClampNeg (v3 + 1))), .int (S.2 (Int32.toNatClampNeg (v3 + 2))), .int (S.2 (Int32.toNatClampNeg (v3 + 3)))]).length = am_ml 233) then _ else False) from ?_)
  refine am_ifp ⟨(show 1 ≤ 8 by decide), (show cs + 0 ≤ 10000 by omega), (show ss + 0 ≤ 6000000 by omega), rfl⟩ ?_
  refine ⟨am_ki_IL N T r _, s_233 hw (fun q2 I2 L2 hk => ⟨q2, I2, L2, rfl, rfl, hk⟩), ?_⟩
  intro v h9 hv
  obtain ⟨q2, I2, L2, rfl, rfl, hw⟩ := hv
  try dsimp only at hw
  refine am_E.run [1332] 200 (show (if q = q2 then (am_E S 304 (d + 60) cs ss 1332 [.retAddr 3, .ref 0, .ref 66, .int v3] [] (N, am_ts T, I2, L2, am_rs r) Q) else (((0 : Int32) = 0 ∨ (0 : Int32) = 1) ∧ Q (some (.int 0)) (N, am_ts T, I2, L2, am_rs r))) from ?_)
  refine am_ifp hw.1 ?_
  exact (hn _ _ _ _ _ hw.2).cs (by omega) (by omega)
/-- go: the class, then the reference -/
def op_18 (x1 : Int32) (x2 : Int32) (P : Nat → (Nat → Nat × Nat) → (Nat → Nat → Option Nat) → am_I → am_J → Prop) (N : Nat) (T : Nat → Nat × Nat) (r : Nat → Nat → Option Nat) (I : am_I) (L : am_J) : Prop :=
  w_117 x1 x2 T r I (fun q I1 => w_251 x1 x2 I1 (fun q2 I2 => q = q2 ∧ P N T r I2 L))
set_option maxRecDepth 100000 in
theorem lc_18 {S : am_S} {d cs ss N : Nat} {T : Nat → Nat × Nat} {I : am_I} {L : am_J} {r : Nat → Nat → Option Nat} {Q : am_Q} {v3 : Int32} {P : Nat → (Nat → Nat × Nat) → (Nat → Nat → Option Nat) → am_I → am_J → Prop} (hb1 : ¬ ((v3 + 1) < 0 ∨ S.1 ≤ Int32.toNatClampNeg (v3 + 1))) (hb2 : ¬ ((v3 + 2) < 0 ∨ S.1 ≤ Int32.toNatClampNeg (v3 + 2))) (hcs : cs + 12 ≤ 10000) (hss : ss + 11333 ≤ 6000000) (hw : op_18 (S.2 (Int32.toNatClampNeg (v3 + 1))) (S.2 (Int32.toNatClampNeg (v3 + 2))) P N T r I L) (hn : ∀ N T r I L, P N T r I L → am_E S 304 (d + 60) (cs + 12) (ss + 11333) 1332 [.retAddr 3, .ref 0, .ref 66, .int v3] [] (N, am_ts T, I, L, am_rs r) Q) : am_E S 304 (d + 60) cs ss 740 [.retAddr 3, .ref 0, .ref 66, .int v3] [] (N, am_ts T, I, L, am_rs r) Q := by
  unfold op_18 at hw
  refine am_E.run [751] 200 (show (if (v3 + 1) < 0 ∨ S.1 ≤ Int32.toNatClampNeg (v3 + 1) then False else (if (v3 + 2) < 0 ∨ S.1 ≤ Int32.toNatClampNeg (v3 + 2) then False else (am_E S 304 (d + 60) cs ss 751 [.retAddr 3, .ref 0, .ref 66, .int v3] [.int (S.2 (Int32.toNatClampNeg (v3 + 2))), .int (S.2 (Int32.toNatClampNeg (v3 + 1))), .ref 0] (N, am_ts T, I, L, am_rs r) Q))) from ?_)
  refine am_ifn hb1 ?_
  refine am_ifn hb2 ?_
  refine am_E.go (show (if (am_cat [] ≤ 8 ∧ cs + am_mc 117 ≤ am_mc 304 ∧ ss + am_ms 117 ≤ am_ms 304 ∧ (am_en 117 [.ref 0, .int (S.2 (Int32.toNatClampNeg (v3 + 1))), .int (S.2 (Int32.toNatClampNeg (v3 + 2)))]).length = am_ml 117) then _ else False) from ?_)
  refine am_ifp ⟨(show 0 ≤ 8 by decide), (show cs + 0 ≤ 10000 by omega), (show ss + 0 ≤ 6000000 by omega), rfl⟩ ?_
  refine ⟨am_ki_I N T L r _, s_117 hw (fun q I1 hk => ⟨q, I1, rfl, rfl, hk⟩), ?_⟩
  intro v h9 hv
  obtain ⟨q, I1, rfl, rfl, hw⟩ := hv
  try dsimp only at hw
  refine am_E.run [765] 200 (show (if (v3 + 1) < 0 ∨ S.1 ≤ Int32.toNatClampNeg (v3 + 1) then False else (if (v3 + 2) < 0 ∨ S.1 ≤ Int32.toNatClampNeg (v3 + 2) then False else (am_E S 304 (d + 60) cs ss 765 [.retAddr 3, .ref 0, .ref 66, .int v3] [.int (S.2 (Int32.toNatClampNeg (v3 + 2))), .int (S.2 (Int32.toNatClampNeg (v3 + 1))), .ref 66, .int q] (N, am_ts T, I1, L, am_rs r) Q))) from ?_)
  refine am_ifn hb1 ?_
  refine am_ifn hb2 ?_
  refine am_E.go (show (if (am_cat [.int q] ≤ 8 ∧ cs + am_mc 251 ≤ am_mc 304 ∧ ss + am_ms 251 ≤ am_ms 304 ∧ (am_en 251 [.ref 66, .int (S.2 (Int32.toNatClampNeg (v3 + 1))), .int (S.2 (Int32.toNatClampNeg (v3 + 2)))]).length = am_ml 251) then _ else False) from ?_)
  refine am_ifp ⟨(show 1 ≤ 8 by decide), (show cs + 0 ≤ 10000 by omega), (show ss + 0 ≤ 6000000 by omega), rfl⟩ ?_
  refine ⟨am_ki_I N T L r _, s_251 hw (fun q2 I2 hk => ⟨q2, I2, rfl, rfl, hk⟩), ?_⟩
  intro v h9 hv
  obtain ⟨q2, I2, rfl, rfl, hw⟩ := hv
  try dsimp only at hw
  refine am_E.run [1332] 200 (show (if q = q2 then (am_E S 304 (d + 60) cs ss 1332 [.retAddr 3, .ref 0, .ref 66, .int v3] [] (N, am_ts T, I2, L, am_rs r) Q) else (((0 : Int32) = 0 ∨ (0 : Int32) = 1) ∧ Q (some (.int 0)) (N, am_ts T, I2, L, am_rs r))) from ?_)
  refine am_ifp hw.1 ?_
  exact (hn _ _ _ _ _ hw.2).cs (by omega) (by omega)
/-- give: the class, then the reference -/
def op_19 (x1 : Int32) (x2 : Int32) (x3 : Int32) (P : Nat → (Nat → Nat × Nat) → (Nat → Nat → Option Nat) → am_I → am_J → Prop) (N : Nat) (T : Nat → Nat × Nat) (r : Nat → Nat → Option Nat) (I : am_I) (L : am_J) : Prop :=
  w_119 x1 x2 x3 T r I (fun q I1 => w_258 x1 x2 x3 I1 (fun q2 I2 => q = q2 ∧ P N T r I2 L))
set_option maxRecDepth 100000 in
theorem lc_19 {S : am_S} {d cs ss N : Nat} {T : Nat → Nat × Nat} {I : am_I} {L : am_J} {r : Nat → Nat → Option Nat} {Q : am_Q} {v3 : Int32} {P : Nat → (Nat → Nat × Nat) → (Nat → Nat → Option Nat) → am_I → am_J → Prop} (hb1 : ¬ ((v3 + 1) < 0 ∨ S.1 ≤ Int32.toNatClampNeg (v3 + 1))) (hb2 : ¬ ((v3 + 2) < 0 ∨ S.1 ≤ Int32.toNatClampNeg (v3 + 2))) (hb3 : ¬ ((v3 + 3) < 0 ∨ S.1 ≤ Int32.toNatClampNeg (v3 + 3))) (hcs : cs + 12 ≤ 10000) (hss : ss + 11333 ≤ 6000000) (hw : op_19 (S.2 (Int32.toNatClampNeg (v3 + 1))) (S.2 (Int32.toNatClampNeg (v3 + 2))) (S.2 (Int32.toNatClampNeg (v3 + 3))) P N T r I L) (hn : ∀ N T r I L, P N T r I L → am_E S 304 (d + 60) (cs + 12) (ss + 11333) 1332 [.retAddr 3, .ref 0, .ref 66, .int v3] [] (N, am_ts T, I, L, am_rs r) Q) : am_E S 304 (d + 60) cs ss 773 [.retAddr 3, .ref 0, .ref 66, .int v3] [] (N, am_ts T, I, L, am_rs r) Q := by
  unfold op_19 at hw
  refine am_E.run [789] 200 (show (if (v3 + 1) < 0 ∨ S.1 ≤ Int32.toNatClampNeg (v3 + 1) then False else (if (v3 + 2) < 0 ∨ S.1 ≤ Int32.toNatClampNeg (v3 + 2) then False else (if (v3 + 3) < 0 ∨ S.1 ≤ Int32.toNatClampNeg (v3 + 3) then False else (am_E S 304 (d + 60) cs ss 789 [.retAddr 3, .ref 0, .ref 66, .int v3] [.int (S.2 (Int32.toNatClampNeg (v3 + 3))), .int (S.2 (Int32.toNatClampNeg (v3 + 2))), .int (S.2 (Int32.toNatClampNeg (v3 + 1))), .ref 0] (N, am_ts T, I, L, am_rs r) Q)))) from ?_)
  refine am_ifn hb1 ?_
  refine am_ifn hb2 ?_
  refine am_ifn hb3 ?_
  refine am_E.go (show (if (am_cat [] ≤ 8 ∧ cs + am_mc 119 ≤ am_mc 304 ∧ ss + am_ms 119 ≤ am_ms 304 ∧ (am_en 119 [.ref 0, .int (S.2 (Int32.toNatClampNeg (v3 + 1))), .int (S.2 (Int32.toNatClampNeg (v3 + 2))), .int (S.2 (Int32.toNatClampNeg (v3 + 3)))]).length = am_ml 119) then _ else False) from ?_)
  refine am_ifp ⟨(show 0 ≤ 8 by decide), (show cs + 0 ≤ 10000 by omega), (show ss + 0 ≤ 6000000 by omega), rfl⟩ ?_
  refine ⟨am_ki_I N T L r _, s_119 hw (fun q I1 hk => ⟨q, I1, rfl, rfl, hk⟩), ?_⟩
  intro v h9 hv
  obtain ⟨q, I1, rfl, rfl, hw⟩ := hv
  try dsimp only at hw
  refine am_E.run [808] 200 (show (if (v3 + 1) < 0 ∨ S.1 ≤ Int32.toNatClampNeg (v3 + 1) then False else (if (v3 + 2) < 0 ∨ S.1 ≤ Int32.toNatClampNeg (v3 + 2) then False else (if (v3 + 3) < 0 ∨ S.1 ≤ Int32.toNatClampNeg (v3 + 3) then False else (am_E S 304 (d + 60) cs ss 808 [.retAddr 3, .ref 0, .ref 66, .int v3] [.int (S.2 (Int32.toNatClampNeg (v3 + 3))), .int (S.2 (Int32.toNatClampNeg (v3 + 2))), .int (S.2 (Int32.toNatClampNeg (v3 + 1))), .ref 66, .int q] (N, am_ts T, I1, L, am_rs r) Q)))) from ?_)
  refine am_ifn hb1 ?_
  refine am_ifn hb2 ?_
  refine am_ifn hb3 ?_
  refine am_E.go (show (if (am_cat [.int q] ≤ 8 ∧ cs + am_mc 258 ≤ am_mc 304 ∧ ss + am_ms 258 ≤ am_ms 304 ∧ (am_en 258 [.ref 66, .int (S.2 (Int32.toNatClampNeg (v3 + 1))), .int (S.2 (Int32.toNatClampNeg (v3 + 2))), .int (S.2 (Int32.toNatClampNeg (v3 + 3)))]).length = am_ml 258) then _ else False) from ?_)
  refine am_ifp ⟨(show 1 ≤ 8 by decide), (show cs + 0 ≤ 10000 by omega), (show ss + 0 ≤ 6000000 by omega), rfl⟩ ?_
  refine ⟨am_ki_I N T L r _, s_258 hw (fun q2 I2 hk => ⟨q2, I2, rfl, rfl, hk⟩), ?_⟩
  intro v h9 hv
  obtain ⟨q2, I2, rfl, rfl, hw⟩ := hv
  try dsimp only at hw
  refine am_E.run [1332] 200 (show (if q = q2 then (am_E S 304 (d + 60) cs ss 1332 [.retAddr 3, .ref 0, .ref 66, .int v3] [] (N, am_ts T, I2, L, am_rs r) Q) else (((0 : Int32) = 0 ∨ (0 : Int32) = 1) ∧ Q (some (.int 0)) (N, am_ts T, I2, L, am_rs r))) from ?_)
  refine am_ifp hw.1 ?_
  exact (hn _ _ _ _ _ hw.2).cs (by omega) (by omega)
/-- inspect: the class, then the reference -/
def op_20 (P : Nat → (Nat → Nat × Nat) → (Nat → Nat → Option Nat) → am_I → am_J → Prop) (N : Nat) (T : Nat → Nat × Nat) (r : Nat → Nat → Option Nat) (I : am_I) (L : am_J) : Prop :=
  w_120 T r I (fun q I1 => w_260 I1 (fun q2 I2 => q = q2 ∧ P N T r I2 L))
set_option maxRecDepth 100000 in
theorem lc_20 {S : am_S} {d cs ss N : Nat} {T : Nat → Nat × Nat} {I : am_I} {L : am_J} {r : Nat → Nat → Option Nat} {Q : am_Q} {v3 : Int32} {P : Nat → (Nat → Nat × Nat) → (Nat → Nat → Option Nat) → am_I → am_J → Prop} (hcs : cs + 12 ≤ 10000) (hss : ss + 11333 ≤ 6000000) (hw : op_20 P N T r I L) (hn : ∀ N T r I L, P N T r I L → am_E S 304 (d + 60) (cs + 12) (ss + 11333) 1332 [.retAddr 3, .ref 0, .ref 66, .int v3] [] (N, am_ts T, I, L, am_rs r) Q) : am_E S 304 (d + 60) cs ss 816 [.retAddr 3, .ref 0, .ref 66, .int v3] [] (N, am_ts T, I, L, am_rs r) Q := by
  unfold op_20 at hw
  refine am_E.run [817] 200 (show (am_E S 304 (d + 60) cs ss 817 [.retAddr 3, .ref 0, .ref 66, .int v3] [.ref 0] (N, am_ts T, I, L, am_rs r) Q) from ?_)
  refine am_E.go (show (if (am_cat [] ≤ 8 ∧ cs + am_mc 120 ≤ am_mc 304 ∧ ss + am_ms 120 ≤ am_ms 304 ∧ (am_en 120 [.ref 0]).length = am_ml 120) then _ else False) from ?_)
  refine am_ifp ⟨(show 0 ≤ 8 by decide), (show cs + 0 ≤ 10000 by omega), (show ss + 0 ≤ 6000000 by omega), rfl⟩ ?_
  refine ⟨am_ki_I N T L r _, s_120 hw (fun q I1 hk => ⟨q, I1, rfl, rfl, hk⟩), ?_⟩
  intro v h9 hv
  obtain ⟨q, I1, rfl, rfl, hw⟩ := hv
  try dsimp only at hw
  refine am_E.run [821] 200 (show (am_E S 304 (d + 60) cs ss 821 [.retAddr 3, .ref 0, .ref 66, .int v3] [.ref 66, .int q] (N, am_ts T, I1, L, am_rs r) Q) from ?_)
  refine am_E.go (show (if (am_cat [.int q] ≤ 8 ∧ cs + am_mc 260 ≤ am_mc 304 ∧ ss + am_ms 260 ≤ am_ms 304 ∧ (am_en 260 [.ref 66]).length = am_ml 260) then _ else False) from ?_)
  refine am_ifp ⟨(show 1 ≤ 8 by decide), (show cs + 0 ≤ 10000 by omega), (show ss + 0 ≤ 6000000 by omega), rfl⟩ ?_
  refine ⟨am_ki_I N T L r _, s_260 hw (fun q2 I2 hk => ⟨q2, I2, rfl, rfl, hk⟩), ?_⟩
  intro v h9 hv
  obtain ⟨q2, I2, rfl, rfl, hw⟩ := hv
  try dsimp only at hw
  refine am_E.run [1332] 200 (show (if q = q2 then (am_E S 304 (d + 60) cs ss 1332 [.retAddr 3, .ref 0, .ref 66, .int v3] [] (N, am_ts T, I2, L, am_rs r) Q) else (((0 : Int32) = 0 ∨ (0 : Int32) = 1) ∧ Q (some (.int 0)) (N, am_ts T, I2, L, am_rs r))) from ?_)
  refine am_ifp hw.1 ?_
  exact (hn _ _ _ _ _ hw.2).cs (by omega) (by omega)
/-- pass: the class, then the reference -/
def op_21 (P : Nat → (Nat → Nat × Nat) → (Nat → Nat → Option Nat) → am_I → am_J → Prop) (N : Nat) (T : Nat → Nat × Nat) (r : Nat → Nat → Option Nat) (I : am_I) (L : am_J) : Prop :=
  w_121 T r I (fun q I1 => w_264 I1 (fun q2 I2 => q = q2 ∧ P N T r I2 L))
set_option maxRecDepth 100000 in
theorem lc_21 {S : am_S} {d cs ss N : Nat} {T : Nat → Nat × Nat} {I : am_I} {L : am_J} {r : Nat → Nat → Option Nat} {Q : am_Q} {v3 : Int32} {P : Nat → (Nat → Nat × Nat) → (Nat → Nat → Option Nat) → am_I → am_J → Prop} (hcs : cs + 12 ≤ 10000) (hss : ss + 11333 ≤ 6000000) (hw : op_21 P N T r I L) (hn : ∀ N T r I L, P N T r I L → am_E S 304 (d + 60) (cs + 12) (ss + 11333) 1332 [.retAddr 3, .ref 0, .ref 66, .int v3] [] (N, am_ts T, I, L, am_rs r) Q) : am_E S 304 (d + 60) cs ss 829 [.retAddr 3, .ref 0, .ref 66, .int v3] [] (N, am_ts T, I, L, am_rs r) Q := by
  unfold op_21 at hw
  refine am_E.run [830] 200 (show (am_E S 304 (d + 60) cs ss 830 [.retAddr 3, .ref 0, .ref 66, .int v3] [.ref 0] (N, am_ts T, I, L, am_rs r) Q) from ?_)
  refine am_E.go (show (if (am_cat [] ≤ 8 ∧ cs + am_mc 121 ≤ am_mc 304 ∧ ss + am_ms 121 ≤ am_ms 304 ∧ (am_en 121 [.ref 0]).length = am_ml 121) then _ else False) from ?_)
  refine am_ifp ⟨(show 0 ≤ 8 by decide), (show cs + 0 ≤ 10000 by omega), (show ss + 0 ≤ 6000000 by omega), rfl⟩ ?_
  refine ⟨am_ki_I N T L r _, s_121 hw (fun q I1 hk => ⟨q, I1, rfl, rfl, hk⟩), ?_⟩
  intro v h9 hv
  obtain ⟨q, I1, rfl, rfl, hw⟩ := hv
  try dsimp only at hw
  refine am_E.run [834] 200 (show (am_E S 304 (d + 60) cs ss 834 [.retAddr 3, .ref 0, .ref 66, .int v3] [.ref 66, .int q] (N, am_ts T, I1, L, am_rs r) Q) from ?_)
  refine am_E.go (show (if (am_cat [.int q] ≤ 8 ∧ cs + am_mc 264 ≤ am_mc 304 ∧ ss + am_ms 264 ≤ am_ms 304 ∧ (am_en 264 [.ref 66]).length = am_ml 264) then _ else False) from ?_)
  refine am_ifp ⟨(show 1 ≤ 8 by decide), (show cs + 0 ≤ 10000 by omega), (show ss + 0 ≤ 6000000 by omega), rfl⟩ ?_
  refine ⟨am_ki_I N T L r _, s_264 hw (fun q2 I2 hk => ⟨q2, I2, rfl, rfl, hk⟩), ?_⟩
  intro v h9 hv
  obtain ⟨q2, I2, rfl, rfl, hw⟩ := hv
  try dsimp only at hw
  refine am_E.run [1332] 200 (show (if q = q2 then (am_E S 304 (d + 60) cs ss 1332 [.retAddr 3, .ref 0, .ref 66, .int v3] [] (N, am_ts T, I2, L, am_rs r) Q) else (((0 : Int32) = 0 ∨ (0 : Int32) = 1) ∧ Q (some (.int 0)) (N, am_ts T, I2, L, am_rs r))) from ?_)
  refine am_ifp hw.1 ?_
  exact (hn _ _ _ _ _ hw.2).cs (by omega) (by omega)
/-- undo: the class, then the reference -/
def op_22 (P : Nat → (Nat → Nat × Nat) → (Nat → Nat → Option Nat) → am_I → am_J → Prop) (N : Nat) (T : Nat → Nat × Nat) (r : Nat → Nat → Option Nat) (I : am_I) (L : am_J) : Prop :=
  w_122 I (fun q I1 => w_178 I1 (fun q2 I2 => q = q2 ∧ P N T r I2 L))
set_option maxRecDepth 100000 in
theorem lc_22 {S : am_S} {d cs ss N : Nat} {T : Nat → Nat × Nat} {I : am_I} {L : am_J} {r : Nat → Nat → Option Nat} {Q : am_Q} {v3 : Int32} {P : Nat → (Nat → Nat × Nat) → (Nat → Nat → Option Nat) → am_I → am_J → Prop} (hcs : cs + 12 ≤ 10000) (hss : ss + 11333 ≤ 6000000) (hw : op_22 P N T r I L) (hn : ∀ N T r I L, P N T r I L → am_E S 304 (d + 60) (cs + 12) (ss + 11333) 1332 [.retAddr 3, .ref 0, .ref 66, .int v3] [] (N, am_ts T, I, L, am_rs r) Q) : am_E S 304 (d + 60) cs ss 842 [.retAddr 3, .ref 0, .ref 66, .int v3] [] (N, am_ts T, I, L, am_rs r) Q := by
  unfold op_22 at hw
  refine am_E.run [843] 200 (show (am_E S 304 (d + 60) cs ss 843 [.retAddr 3, .ref 0, .ref 66, .int v3] [.ref 0] (N, am_ts T, I, L, am_rs r) Q) from ?_)
  refine am_E.go (show (if (am_cat [] ≤ 8 ∧ cs + am_mc 122 ≤ am_mc 304 ∧ ss + am_ms 122 ≤ am_ms 304 ∧ (am_en 122 [.ref 0]).length = am_ml 122) then _ else False) from ?_)
  refine am_ifp ⟨(show 0 ≤ 8 by decide), (show cs + 0 ≤ 10000 by omega), (show ss + 0 ≤ 6000000 by omega), rfl⟩ ?_
  refine ⟨am_ki_I N T L r _, s_122 hw (fun q I1 hk => ⟨q, I1, rfl, rfl, hk⟩), ?_⟩
  intro v h9 hv
  obtain ⟨q, I1, rfl, rfl, hw⟩ := hv
  try dsimp only at hw
  refine am_E.run [847] 200 (show (am_E S 304 (d + 60) cs ss 847 [.retAddr 3, .ref 0, .ref 66, .int v3] [.ref 66, .int q] (N, am_ts T, I1, L, am_rs r) Q) from ?_)
  refine am_E.go (show (if (am_cat [.int q] ≤ 8 ∧ cs + am_mc 178 ≤ am_mc 304 ∧ ss + am_ms 178 ≤ am_ms 304 ∧ (am_en 178 [.ref 66]).length = am_ml 178) then _ else False) from ?_)
  refine am_ifp ⟨(show 1 ≤ 8 by decide), (show cs + 0 ≤ 10000 by omega), (show ss + 0 ≤ 6000000 by omega), rfl⟩ ?_
  refine ⟨am_ki_I N T L r _, s_178 hw (fun q2 I2 hk => ⟨q2, I2, rfl, rfl, hk⟩), ?_⟩
  intro v h9 hv
  obtain ⟨q2, I2, rfl, rfl, hw⟩ := hv
  try dsimp only at hw
  refine am_E.run [1332] 200 (show (if q = q2 then (am_E S 304 (d + 60) cs ss 1332 [.retAddr 3, .ref 0, .ref 66, .int v3] [] (N, am_ts T, I2, L, am_rs r) Q) else (((0 : Int32) = 0 ∨ (0 : Int32) = 1) ∧ Q (some (.int 0)) (N, am_ts T, I2, L, am_rs r))) from ?_)
  refine am_ifp hw.1 ?_
  exact (hn _ _ _ _ _ hw.2).cs (by omega) (by omega)
/-- opens: the class, then the reference -/
def op_23 (x1 : Int32) (x2 : Int32) (P : Nat → (Nat → Nat × Nat) → (Nat → Nat → Option Nat) → am_I → am_J → Prop) (N : Nat) (T : Nat → Nat × Nat) (r : Nat → Nat → Option Nat) (I : am_I) (L : am_J) : Prop :=
  w_124 x1 x2 T r I (fun q => w_246 x1 x2 I (fun q2 I2 => q = q2 ∧ P N T r I2 L))
set_option maxRecDepth 100000 in
theorem lc_23 {S : am_S} {d cs ss N : Nat} {T : Nat → Nat × Nat} {I : am_I} {L : am_J} {r : Nat → Nat → Option Nat} {Q : am_Q} {v3 : Int32} {P : Nat → (Nat → Nat × Nat) → (Nat → Nat → Option Nat) → am_I → am_J → Prop} (hb1 : ¬ ((v3 + 1) < 0 ∨ S.1 ≤ Int32.toNatClampNeg (v3 + 1))) (hb2 : ¬ ((v3 + 2) < 0 ∨ S.1 ≤ Int32.toNatClampNeg (v3 + 2))) (hcs : cs + 12 ≤ 10000) (hss : ss + 11333 ≤ 6000000) (hw : op_23 (S.2 (Int32.toNatClampNeg (v3 + 1))) (S.2 (Int32.toNatClampNeg (v3 + 2))) P N T r I L) (hn : ∀ N T r I L, P N T r I L → am_E S 304 (d + 60) (cs + 12) (ss + 11333) 1332 [.retAddr 3, .ref 0, .ref 66, .int v3] [] (N, am_ts T, I, L, am_rs r) Q) : am_E S 304 (d + 60) cs ss 855 [.retAddr 3, .ref 0, .ref 66, .int v3] [] (N, am_ts T, I, L, am_rs r) Q := by
  unfold op_23 at hw
  refine am_E.run [866] 200 (show (if (v3 + 1) < 0 ∨ S.1 ≤ Int32.toNatClampNeg (v3 + 1) then False else (if (v3 + 2) < 0 ∨ S.1 ≤ Int32.toNatClampNeg (v3 + 2) then False else (am_E S 304 (d + 60) cs ss 866 [.retAddr 3, .ref 0, .ref 66, .int v3] [.int (S.2 (Int32.toNatClampNeg (v3 + 2))), .int (S.2 (Int32.toNatClampNeg (v3 + 1))), .ref 0] (N, am_ts T, I, L, am_rs r) Q))) from ?_)
  refine am_ifn hb1 ?_
  refine am_ifn hb2 ?_
  refine am_E.go (show (if (am_cat [] ≤ 8 ∧ cs + am_mc 124 ≤ am_mc 304 ∧ ss + am_ms 124 ≤ am_ms 304 ∧ (am_en 124 [.ref 0, .int (S.2 (Int32.toNatClampNeg (v3 + 1))), .int (S.2 (Int32.toNatClampNeg (v3 + 2)))]).length = am_ml 124) then _ else False) from ?_)
  refine am_ifp ⟨(show 0 ≤ 8 by decide), (show cs + 0 ≤ 10000 by omega), (show ss + 0 ≤ 6000000 by omega), rfl⟩ ?_
  refine ⟨am_ki_ N T I L r _, s_124 hw (fun q hk => ⟨q, rfl, rfl, hk⟩), ?_⟩
  intro v h9 hv
  obtain ⟨q, rfl, rfl, hw⟩ := hv
  try dsimp only at hw
  refine am_E.run [880] 200 (show (if (v3 + 1) < 0 ∨ S.1 ≤ Int32.toNatClampNeg (v3 + 1) then False else (if (v3 + 2) < 0 ∨ S.1 ≤ Int32.toNatClampNeg (v3 + 2) then False else (am_E S 304 (d + 60) cs ss 880 [.retAddr 3, .ref 0, .ref 66, .int v3] [.int (S.2 (Int32.toNatClampNeg (v3 + 2))), .int (S.2 (Int32.toNatClampNeg (v3 + 1))), .ref 66, .int q] (N, am_ts T, I, L, am_rs r) Q))) from ?_)
  refine am_ifn hb1 ?_
  refine am_ifn hb2 ?_
  refine am_E.go (show (if (am_cat [.int q] ≤ 8 ∧ cs + am_mc 246 ≤ am_mc 304 ∧ ss + am_ms 246 ≤ am_ms 304 ∧ (am_en 246 [.ref 66, .int (S.2 (Int32.toNatClampNeg (v3 + 1))), .int (S.2 (Int32.toNatClampNeg (v3 + 2)))]).length = am_ml 246) then _ else False) from ?_)
  refine am_ifp ⟨(show 1 ≤ 8 by decide), (show cs + 0 ≤ 10000 by omega), (show ss + 0 ≤ 6000000 by omega), rfl⟩ ?_
  refine ⟨am_ki_I N T L r _, s_246 hw (fun q2 I2 hk => ⟨q2, I2, rfl, rfl, hk⟩), ?_⟩
  intro v h9 hv
  obtain ⟨q2, I2, rfl, rfl, hw⟩ := hv
  try dsimp only at hw
  refine am_E.run [1332] 200 (show (if q = q2 then (am_E S 304 (d + 60) cs ss 1332 [.retAddr 3, .ref 0, .ref 66, .int v3] [] (N, am_ts T, I2, L, am_rs r) Q) else (((0 : Int32) = 0 ∨ (0 : Int32) = 1) ∧ Q (some (.int 0)) (N, am_ts T, I2, L, am_rs r))) from ?_)
  refine am_ifp hw.1 ?_
  exact (hn _ _ _ _ _ hw.2).cs (by omega) (by omega)
/-- way: the class, then the reference -/
def op_24 (x1 : Int32) (P : Nat → (Nat → Nat × Nat) → (Nat → Nat → Option Nat) → am_I → am_J → Prop) (N : Nat) (T : Nat → Nat × Nat) (r : Nat → Nat → Option Nat) (I : am_I) (L : am_J) : Prop :=
  w_125 x1 I (fun q => w_266 x1 I (fun q2 I2 => q = q2 ∧ P N T r I2 L))
set_option maxRecDepth 100000 in
theorem lc_24 {S : am_S} {d cs ss N : Nat} {T : Nat → Nat × Nat} {I : am_I} {L : am_J} {r : Nat → Nat → Option Nat} {Q : am_Q} {v3 : Int32} {P : Nat → (Nat → Nat × Nat) → (Nat → Nat → Option Nat) → am_I → am_J → Prop} (hb1 : ¬ ((v3 + 1) < 0 ∨ S.1 ≤ Int32.toNatClampNeg (v3 + 1))) (hcs : cs + 12 ≤ 10000) (hss : ss + 11333 ≤ 6000000) (hw : op_24 (S.2 (Int32.toNatClampNeg (v3 + 1))) P N T r I L) (hn : ∀ N T r I L, P N T r I L → am_E S 304 (d + 60) (cs + 12) (ss + 11333) 1332 [.retAddr 3, .ref 0, .ref 66, .int v3] [] (N, am_ts T, I, L, am_rs r) Q) : am_E S 304 (d + 60) cs ss 888 [.retAddr 3, .ref 0, .ref 66, .int v3] [] (N, am_ts T, I, L, am_rs r) Q := by
  unfold op_24 at hw
  refine am_E.run [894] 200 (show (if (v3 + 1) < 0 ∨ S.1 ≤ Int32.toNatClampNeg (v3 + 1) then False else (am_E S 304 (d + 60) cs ss 894 [.retAddr 3, .ref 0, .ref 66, .int v3] [.int (S.2 (Int32.toNatClampNeg (v3 + 1))), .ref 0] (N, am_ts T, I, L, am_rs r) Q)) from ?_)
  refine am_ifn hb1 ?_
  refine am_E.go (show (if (am_cat [] ≤ 8 ∧ cs + am_mc 125 ≤ am_mc 304 ∧ ss + am_ms 125 ≤ am_ms 304 ∧ (am_en 125 [.ref 0, .int (S.2 (Int32.toNatClampNeg (v3 + 1)))]).length = am_ml 125) then _ else False) from ?_)
  refine am_ifp ⟨(show 0 ≤ 8 by decide), (show cs + 0 ≤ 10000 by omega), (show ss + 0 ≤ 6000000 by omega), rfl⟩ ?_
  refine ⟨am_ki_ N T I L r _, s_125 hw (fun q hk => ⟨q, rfl, rfl, hk⟩), ?_⟩
  intro v h9 hv
  obtain ⟨q, rfl, rfl, hw⟩ := hv
  try dsimp only at hw
  refine am_E.run [903] 200 (show (if (v3 + 1) < 0 ∨ S.1 ≤ Int32.toNatClampNeg (v3 + 1) then False else (am_E S 304 (d + 60) cs ss 903 [.retAddr 3, .ref 0, .ref 66, .int v3] [.int (S.2 (Int32.toNatClampNeg (v3 + 1))), .ref 66, .int q] (N, am_ts T, I, L, am_rs r) Q)) from ?_)
  refine am_ifn hb1 ?_
  refine am_E.go (show (if (am_cat [.int q] ≤ 8 ∧ cs + am_mc 266 ≤ am_mc 304 ∧ ss + am_ms 266 ≤ am_ms 304 ∧ (am_en 266 [.ref 66, .int (S.2 (Int32.toNatClampNeg (v3 + 1)))]).length = am_ml 266) then _ else False) from ?_)
  refine am_ifp ⟨(show 1 ≤ 8 by decide), (show cs + 0 ≤ 10000 by omega), (show ss + 0 ≤ 6000000 by omega), rfl⟩ ?_
  refine ⟨am_ki_I N T L r _, s_266 hw (fun q2 I2 hk => ⟨q2, I2, rfl, rfl, hk⟩), ?_⟩
  intro v h9 hv
  obtain ⟨q2, I2, rfl, rfl, hw⟩ := hv
  try dsimp only at hw
  refine am_E.run [1332] 200 (show (if q = q2 then (am_E S 304 (d + 60) cs ss 1332 [.retAddr 3, .ref 0, .ref 66, .int v3] [] (N, am_ts T, I2, L, am_rs r) Q) else (((0 : Int32) = 0 ∨ (0 : Int32) = 1) ∧ Q (some (.int 0)) (N, am_ts T, I2, L, am_rs r))) from ?_)
  refine am_ifp hw.1 ?_
  exact (hn _ _ _ _ _ hw.2).cs (by omega) (by omega)
/-- cut: the class, then the reference -/
def op_25 (x1 : Int32) (x2 : Int32) (P : Nat → (Nat → Nat × Nat) → (Nat → Nat → Option Nat) → am_I → am_J → Prop) (N : Nat) (T : Nat → Nat × Nat) (r : Nat → Nat → Option Nat) (I : am_I) (L : am_J) : Prop :=
  w_129 x1 x2 I (fun q I1 => w_269 x1 x2 I1 (fun q2 I2 => q = q2 ∧ P N T r I2 L))
set_option maxRecDepth 100000 in
theorem lc_25 {S : am_S} {d cs ss N : Nat} {T : Nat → Nat × Nat} {I : am_I} {L : am_J} {r : Nat → Nat → Option Nat} {Q : am_Q} {v3 : Int32} {P : Nat → (Nat → Nat × Nat) → (Nat → Nat → Option Nat) → am_I → am_J → Prop} (hb1 : ¬ ((v3 + 1) < 0 ∨ S.1 ≤ Int32.toNatClampNeg (v3 + 1))) (hb2 : ¬ ((v3 + 2) < 0 ∨ S.1 ≤ Int32.toNatClampNeg (v3 + 2))) (hcs : cs + 12 ≤ 10000) (hss : ss + 11333 ≤ 6000000) (hw : op_25 (S.2 (Int32.toNatClampNeg (v3 + 1))) (S.2 (Int32.toNatClampNeg (v3 + 2))) P N T r I L) (hn : ∀ N T r I L, P N T r I L → am_E S 304 (d + 60) (cs + 12) (ss + 11333) 1332 [.retAddr 3, .ref 0, .ref 66, .int v3] [] (N, am_ts T, I, L, am_rs r) Q) : am_E S 304 (d + 60) cs ss 911 [.retAddr 3, .ref 0, .ref 66, .int v3] [] (N, am_ts T, I, L, am_rs r) Q := by
  unfold op_25 at hw
  refine am_E.run [922] 200 (show (if (v3 + 1) < 0 ∨ S.1 ≤ Int32.toNatClampNeg (v3 + 1) then False else (if (v3 + 2) < 0 ∨ S.1 ≤ Int32.toNatClampNeg (v3 + 2) then False else (am_E S 304 (d + 60) cs ss 922 [.retAddr 3, .ref 0, .ref 66, .int v3] [.int (S.2 (Int32.toNatClampNeg (v3 + 2))), .int (S.2 (Int32.toNatClampNeg (v3 + 1))), .ref 0] (N, am_ts T, I, L, am_rs r) Q))) from ?_)
  refine am_ifn hb1 ?_
  refine am_ifn hb2 ?_
  refine am_E.go (show (if (am_cat [] ≤ 8 ∧ cs + am_mc 129 ≤ am_mc 304 ∧ ss + am_ms 129 ≤ am_ms 304 ∧ (am_en 129 [.ref 0, .int (S.2 (Int32.toNatClampNeg (v3 + 1))), .int (S.2 (Int32.toNatClampNeg (v3 + 2)))]).length = am_ml 129) then _ else False) from ?_)
  refine am_ifp ⟨(show 0 ≤ 8 by decide), (show cs + 0 ≤ 10000 by omega), (show ss + 0 ≤ 6000000 by omega), rfl⟩ ?_
  refine ⟨am_ki_I N T L r _, s_129 hw (fun q I1 hk => ⟨q, I1, rfl, rfl, hk⟩), ?_⟩
  intro v h9 hv
  obtain ⟨q, I1, rfl, rfl, hw⟩ := hv
  try dsimp only at hw
  refine am_E.run [936] 200 (show (if (v3 + 1) < 0 ∨ S.1 ≤ Int32.toNatClampNeg (v3 + 1) then False else (if (v3 + 2) < 0 ∨ S.1 ≤ Int32.toNatClampNeg (v3 + 2) then False else (am_E S 304 (d + 60) cs ss 936 [.retAddr 3, .ref 0, .ref 66, .int v3] [.int (S.2 (Int32.toNatClampNeg (v3 + 2))), .int (S.2 (Int32.toNatClampNeg (v3 + 1))), .ref 66, .int q] (N, am_ts T, I1, L, am_rs r) Q))) from ?_)
  refine am_ifn hb1 ?_
  refine am_ifn hb2 ?_
  refine am_E.go (show (if (am_cat [.int q] ≤ 8 ∧ cs + am_mc 269 ≤ am_mc 304 ∧ ss + am_ms 269 ≤ am_ms 304 ∧ (am_en 269 [.ref 66, .int (S.2 (Int32.toNatClampNeg (v3 + 1))), .int (S.2 (Int32.toNatClampNeg (v3 + 2)))]).length = am_ml 269) then _ else False) from ?_)
  refine am_ifp ⟨(show 1 ≤ 8 by decide), (show cs + 0 ≤ 10000 by omega), (show ss + 0 ≤ 6000000 by omega), rfl⟩ ?_
  refine ⟨am_ki_I N T L r _, s_269 hw (fun q2 I2 hk => ⟨q2, I2, rfl, rfl, hk⟩), ?_⟩
  intro v h9 hv
  obtain ⟨q2, I2, rfl, rfl, hw⟩ := hv
  try dsimp only at hw
  refine am_E.run [1332] 200 (show (if q = q2 then (am_E S 304 (d + 60) cs ss 1332 [.retAddr 3, .ref 0, .ref 66, .int v3] [] (N, am_ts T, I2, L, am_rs r) Q) else (((0 : Int32) = 0 ∨ (0 : Int32) = 1) ∧ Q (some (.int 0)) (N, am_ts T, I2, L, am_rs r))) from ?_)
  refine am_ifp hw.1 ?_
  exact (hn _ _ _ _ _ hw.2).cs (by omega) (by omega)
/-- together: the class, then the reference -/
def op_26 (P : Nat → (Nat → Nat × Nat) → (Nat → Nat → Option Nat) → am_I → am_J → Prop) (N : Nat) (T : Nat → Nat × Nat) (r : Nat → Nat → Option Nat) (I : am_I) (L : am_J) : Prop :=
  w_134 I (fun q => w_270 I (fun q2 I2 => q = q2 ∧ P N T r I2 L))
set_option maxRecDepth 100000 in
theorem lc_26 {S : am_S} {d cs ss N : Nat} {T : Nat → Nat × Nat} {I : am_I} {L : am_J} {r : Nat → Nat → Option Nat} {Q : am_Q} {v3 : Int32} {P : Nat → (Nat → Nat × Nat) → (Nat → Nat → Option Nat) → am_I → am_J → Prop} (hcs : cs + 12 ≤ 10000) (hss : ss + 11333 ≤ 6000000) (hw : op_26 P N T r I L) (hn : ∀ N T r I L, P N T r I L → am_E S 304 (d + 60) (cs + 12) (ss + 11333) 1332 [.retAddr 3, .ref 0, .ref 66, .int v3] [] (N, am_ts T, I, L, am_rs r) Q) : am_E S 304 (d + 60) cs ss 944 [.retAddr 3, .ref 0, .ref 66, .int v3] [] (N, am_ts T, I, L, am_rs r) Q := by
  unfold op_26 at hw
  refine am_E.run [945] 200 (show (am_E S 304 (d + 60) cs ss 945 [.retAddr 3, .ref 0, .ref 66, .int v3] [.ref 0] (N, am_ts T, I, L, am_rs r) Q) from ?_)
  refine am_E.go (show (if (am_cat [] ≤ 8 ∧ cs + am_mc 134 ≤ am_mc 304 ∧ ss + am_ms 134 ≤ am_ms 304 ∧ (am_en 134 [.ref 0]).length = am_ml 134) then _ else False) from ?_)
  refine am_ifp ⟨(show 0 ≤ 8 by decide), (show cs + 0 ≤ 10000 by omega), (show ss + 0 ≤ 6000000 by omega), rfl⟩ ?_
  refine ⟨am_ki_ N T I L r _, s_134 hw (fun q hk => ⟨q, rfl, rfl, hk⟩), ?_⟩
  intro v h9 hv
  obtain ⟨q, rfl, rfl, hw⟩ := hv
  try dsimp only at hw
  refine am_E.run [949] 200 (show (am_E S 304 (d + 60) cs ss 949 [.retAddr 3, .ref 0, .ref 66, .int v3] [.ref 66, .int q] (N, am_ts T, I, L, am_rs r) Q) from ?_)
  refine am_E.go (show (if (am_cat [.int q] ≤ 8 ∧ cs + am_mc 270 ≤ am_mc 304 ∧ ss + am_ms 270 ≤ am_ms 304 ∧ (am_en 270 [.ref 66]).length = am_ml 270) then _ else False) from ?_)
  refine am_ifp ⟨(show 1 ≤ 8 by decide), (show cs + 0 ≤ 10000 by omega), (show ss + 0 ≤ 6000000 by omega), rfl⟩ ?_
  refine ⟨am_ki_I N T L r _, s_270 hw (fun q2 I2 hk => ⟨q2, I2, rfl, rfl, hk⟩), ?_⟩
  intro v h9 hv
  obtain ⟨q2, I2, rfl, rfl, hw⟩ := hv
  try dsimp only at hw
  refine am_E.run [1332] 200 (show (if q = q2 then (am_E S 304 (d + 60) cs ss 1332 [.retAddr 3, .ref 0, .ref 66, .int v3] [] (N, am_ts T, I2, L, am_rs r) Q) else (((0 : Int32) = 0 ∨ (0 : Int32) = 1) ∧ Q (some (.int 0)) (N, am_ts T, I2, L, am_rs r))) from ?_)
  refine am_ifp hw.1 ?_
  exact (hn _ _ _ _ _ hw.2).cs (by omega) (by omega)
/-- rota: the class, then the reference -/
def op_27 (x1 : Int32) (P : Nat → (Nat → Nat × Nat) → (Nat → Nat → Option Nat) → am_I → am_J → Prop) (N : Nat) (T : Nat → Nat × Nat) (r : Nat → Nat → Option Nat) (I : am_I) (L : am_J) : Prop :=
  w_135 x1 N T r I L (fun q N1 T1 r1 I1 L1 => w_271 x1 I1 L1 (fun q2 I2 L2 => q = q2 ∧ P N1 T1 r1 I2 L2))
set_option maxRecDepth 100000 in
theorem lc_27 {S : am_S} {d cs ss N : Nat} {T : Nat → Nat × Nat} {I : am_I} {L : am_J} {r : Nat → Nat → Option Nat} {Q : am_Q} {v3 : Int32} {P : Nat → (Nat → Nat × Nat) → (Nat → Nat → Option Nat) → am_I → am_J → Prop} (hb1 : ¬ ((v3 + 1) < 0 ∨ S.1 ≤ Int32.toNatClampNeg (v3 + 1))) (hcs : cs + 12 ≤ 10000) (hss : ss + 11333 ≤ 6000000) (hw : op_27 (S.2 (Int32.toNatClampNeg (v3 + 1))) P N T r I L) (hn : ∀ N T r I L, P N T r I L → am_E S 304 (d + 60) (cs + 12) (ss + 11333) 1332 [.retAddr 3, .ref 0, .ref 66, .int v3] [] (N, am_ts T, I, L, am_rs r) Q) : am_E S 304 (d + 60) cs ss 957 [.retAddr 3, .ref 0, .ref 66, .int v3] [] (N, am_ts T, I, L, am_rs r) Q := by
  unfold op_27 at hw
  refine am_E.run [963] 200 (show (if (v3 + 1) < 0 ∨ S.1 ≤ Int32.toNatClampNeg (v3 + 1) then False else (am_E S 304 (d + 60) cs ss 963 [.retAddr 3, .ref 0, .ref 66, .int v3] [.int (S.2 (Int32.toNatClampNeg (v3 + 1))), .ref 0] (N, am_ts T, I, L, am_rs r) Q)) from ?_)
  refine am_ifn hb1 ?_
  refine am_E.go (show (if (am_cat [] ≤ 8 ∧ cs + am_mc 135 ≤ am_mc 304 ∧ ss + am_ms 135 ≤ am_ms 304 ∧ (am_en 135 [.ref 0, .int (S.2 (Int32.toNatClampNeg (v3 + 1)))]).length = am_ml 135) then _ else False) from ?_)
  refine am_ifp ⟨(show 0 ≤ 8 by decide), (show cs + 10 ≤ 10000 by omega), (show ss + 11333 ≤ 6000000 by omega), rfl⟩ ?_
  refine ⟨am_ki_NTrIL _, s_135 hw (fun q N1 T1 r1 I1 L1 hk => ⟨q, N1, T1, r1, I1, L1, rfl, rfl, hk⟩), ?_⟩
  intro v h9 hv
  obtain ⟨q, N1, T1, r1, I1, L1, rfl, rfl, hw⟩ := hv
  try dsimp only at hw
  refine am_E.run [972] 200 (show (if (v3 + 1) < 0 ∨ S.1 ≤ Int32.toNatClampNeg (v3 + 1) then False else (am_E S 304 (d + 60) (cs + 10) (ss + 11333) 972 [.retAddr 3, .ref 0, .ref 66, .int v3] [.int (S.2 (Int32.toNatClampNeg (v3 + 1))), .ref 66, .int q] (N1, am_ts T1, I1, L1, am_rs r1) Q)) from ?_)
  refine am_ifn hb1 ?_
  refine am_E.go (show (if (am_cat [.int q] ≤ 8 ∧ (cs + 10) + am_mc 271 ≤ am_mc 304 ∧ (ss + 11333) + am_ms 271 ≤ am_ms 304 ∧ (am_en 271 [.ref 66, .int (S.2 (Int32.toNatClampNeg (v3 + 1)))]).length = am_ml 271) then _ else False) from ?_)
  refine am_ifp ⟨(show 1 ≤ 8 by decide), (show (cs + 10) + 0 ≤ 10000 by omega), (show (ss + 11333) + 0 ≤ 6000000 by omega), rfl⟩ ?_
  refine ⟨am_ki_IL N1 T1 r1 _, s_271 hw (fun q2 I2 L2 hk => ⟨q2, I2, L2, rfl, rfl, hk⟩), ?_⟩
  intro v h9 hv
  obtain ⟨q2, I2, L2, rfl, rfl, hw⟩ := hv
  try dsimp only at hw
  refine am_E.run [1332] 200 (show (if q = q2 then (am_E S 304 (d + 60) (cs + 10) (ss + 11333) 1332 [.retAddr 3, .ref 0, .ref 66, .int v3] [] (N1, am_ts T1, I2, L2, am_rs r1) Q) else (((0 : Int32) = 0 ∨ (0 : Int32) = 1) ∧ Q (some (.int 0)) (N1, am_ts T1, I2, L2, am_rs r1))) from ?_)
  refine am_ifp hw.1 ?_
  exact (hn _ _ _ _ _ hw.2).cs (by omega) (by omega)
/-- rests: the class, then the reference -/
def op_28 (x1 : Int32) (P : Nat → (Nat → Nat × Nat) → (Nat → Nat → Option Nat) → am_I → am_J → Prop) (N : Nat) (T : Nat → Nat × Nat) (r : Nat → Nat → Option Nat) (I : am_I) (L : am_J) : Prop :=
  w_144 x1 T r I (fun q I1 => w_277 x1 I1 L (fun q2 I2 L2 => q = q2 ∧ P N T r I2 L2))
set_option maxRecDepth 100000 in
theorem lc_28 {S : am_S} {d cs ss N : Nat} {T : Nat → Nat × Nat} {I : am_I} {L : am_J} {r : Nat → Nat → Option Nat} {Q : am_Q} {v3 : Int32} {P : Nat → (Nat → Nat × Nat) → (Nat → Nat → Option Nat) → am_I → am_J → Prop} (hb1 : ¬ ((v3 + 1) < 0 ∨ S.1 ≤ Int32.toNatClampNeg (v3 + 1))) (hcs : cs + 12 ≤ 10000) (hss : ss + 11333 ≤ 6000000) (hw : op_28 (S.2 (Int32.toNatClampNeg (v3 + 1))) P N T r I L) (hn : ∀ N T r I L, P N T r I L → am_E S 304 (d + 60) (cs + 12) (ss + 11333) 1332 [.retAddr 3, .ref 0, .ref 66, .int v3] [] (N, am_ts T, I, L, am_rs r) Q) : am_E S 304 (d + 60) cs ss 980 [.retAddr 3, .ref 0, .ref 66, .int v3] [] (N, am_ts T, I, L, am_rs r) Q := by
  unfold op_28 at hw
  refine am_E.run [986] 200 (show (if (v3 + 1) < 0 ∨ S.1 ≤ Int32.toNatClampNeg (v3 + 1) then False else (am_E S 304 (d + 60) cs ss 986 [.retAddr 3, .ref 0, .ref 66, .int v3] [.int (S.2 (Int32.toNatClampNeg (v3 + 1))), .ref 0] (N, am_ts T, I, L, am_rs r) Q)) from ?_)
  refine am_ifn hb1 ?_
  refine am_E.go (show (if (am_cat [] ≤ 8 ∧ cs + am_mc 144 ≤ am_mc 304 ∧ ss + am_ms 144 ≤ am_ms 304 ∧ (am_en 144 [.ref 0, .int (S.2 (Int32.toNatClampNeg (v3 + 1)))]).length = am_ml 144) then _ else False) from ?_)
  refine am_ifp ⟨(show 0 ≤ 8 by decide), (show cs + 0 ≤ 10000 by omega), (show ss + 0 ≤ 6000000 by omega), rfl⟩ ?_
  refine ⟨am_ki_I N T L r _, s_144 hw (fun q I1 hk => ⟨q, I1, rfl, rfl, hk⟩), ?_⟩
  intro v h9 hv
  obtain ⟨q, I1, rfl, rfl, hw⟩ := hv
  try dsimp only at hw
  refine am_E.run [995] 200 (show (if (v3 + 1) < 0 ∨ S.1 ≤ Int32.toNatClampNeg (v3 + 1) then False else (am_E S 304 (d + 60) cs ss 995 [.retAddr 3, .ref 0, .ref 66, .int v3] [.int (S.2 (Int32.toNatClampNeg (v3 + 1))), .ref 66, .int q] (N, am_ts T, I1, L, am_rs r) Q)) from ?_)
  refine am_ifn hb1 ?_
  refine am_E.go (show (if (am_cat [.int q] ≤ 8 ∧ cs + am_mc 277 ≤ am_mc 304 ∧ ss + am_ms 277 ≤ am_ms 304 ∧ (am_en 277 [.ref 66, .int (S.2 (Int32.toNatClampNeg (v3 + 1)))]).length = am_ml 277) then _ else False) from ?_)
  refine am_ifp ⟨(show 1 ≤ 8 by decide), (show cs + 0 ≤ 10000 by omega), (show ss + 0 ≤ 6000000 by omega), rfl⟩ ?_
  refine ⟨am_ki_IL N T r _, s_277 hw (fun q2 I2 L2 hk => ⟨q2, I2, L2, rfl, rfl, hk⟩), ?_⟩
  intro v h9 hv
  obtain ⟨q2, I2, L2, rfl, rfl, hw⟩ := hv
  try dsimp only at hw
  refine am_E.run [1332] 200 (show (if q = q2 then (am_E S 304 (d + 60) cs ss 1332 [.retAddr 3, .ref 0, .ref 66, .int v3] [] (N, am_ts T, I2, L2, am_rs r) Q) else (((0 : Int32) = 0 ∨ (0 : Int32) = 1) ∧ Q (some (.int 0)) (N, am_ts T, I2, L2, am_rs r))) from ?_)
  refine am_ifp hw.1 ?_
  exact (hn _ _ _ _ _ hw.2).cs (by omega) (by omega)
/-- parted: the class, then the reference -/
def op_29 (x1 : Int32) (x2 : Int32) (P : Nat → (Nat → Nat × Nat) → (Nat → Nat → Option Nat) → am_I → am_J → Prop) (N : Nat) (T : Nat → Nat × Nat) (r : Nat → Nat → Option Nat) (I : am_I) (L : am_J) : Prop :=
  w_147 x1 x2 I (fun q I1 => w_278 x1 x2 I1 (fun q2 I2 => q = q2 ∧ P N T r I2 L))
set_option maxRecDepth 100000 in
theorem lc_29 {S : am_S} {d cs ss N : Nat} {T : Nat → Nat × Nat} {I : am_I} {L : am_J} {r : Nat → Nat → Option Nat} {Q : am_Q} {v3 : Int32} {P : Nat → (Nat → Nat × Nat) → (Nat → Nat → Option Nat) → am_I → am_J → Prop} (hb1 : ¬ ((v3 + 1) < 0 ∨ S.1 ≤ Int32.toNatClampNeg (v3 + 1))) (hb2 : ¬ ((v3 + 2) < 0 ∨ S.1 ≤ Int32.toNatClampNeg (v3 + 2))) (hcs : cs + 12 ≤ 10000) (hss : ss + 11333 ≤ 6000000) (hw : op_29 (S.2 (Int32.toNatClampNeg (v3 + 1))) (S.2 (Int32.toNatClampNeg (v3 + 2))) P N T r I L) (hn : ∀ N T r I L, P N T r I L → am_E S 304 (d + 60) (cs + 12) (ss + 11333) 1332 [.retAddr 3, .ref 0, .ref 66, .int v3] [] (N, am_ts T, I, L, am_rs r) Q) : am_E S 304 (d + 60) cs ss 1003 [.retAddr 3, .ref 0, .ref 66, .int v3] [] (N, am_ts T, I, L, am_rs r) Q := by
  unfold op_29 at hw
  refine am_E.run [1014] 200 (show (if (v3 + 1) < 0 ∨ S.1 ≤ Int32.toNatClampNeg (v3 + 1) then False else (if (v3 + 2) < 0 ∨ S.1 ≤ Int32.toNatClampNeg (v3 + 2) then False else (am_E S 304 (d + 60) cs ss 1014 [.retAddr 3, .ref 0, .ref 66, .int v3] [.int (S.2 (Int32.toNatClampNeg (v3 + 2))), .int (S.2 (Int32.toNatClampNeg (v3 + 1))), .ref 0] (N, am_ts T, I, L, am_rs r) Q))) from ?_)
  refine am_ifn hb1 ?_
  refine am_ifn hb2 ?_
  refine am_E.go (show (if (am_cat [] ≤ 8 ∧ cs + am_mc 147 ≤ am_mc 304 ∧ ss + am_ms 147 ≤ am_ms 304 ∧ (am_en 147 [.ref 0, .int (S.2 (Int32.toNatClampNeg (v3 + 1))), .int (S.2 (Int32.toNatClampNeg (v3 + 2)))]).length = am_ml 147) then _ else False) from ?_)
  refine am_ifp ⟨(show 0 ≤ 8 by decide), (show cs + 0 ≤ 10000 by omega), (show ss + 0 ≤ 6000000 by omega), rfl⟩ ?_
  refine ⟨am_ki_I N T L r _, s_147 hw (fun q I1 hk => ⟨q, I1, rfl, rfl, hk⟩), ?_⟩
  intro v h9 hv
  obtain ⟨q, I1, rfl, rfl, hw⟩ := hv
  try dsimp only at hw
  refine am_E.run [1028] 200 (show (if (v3 + 1) < 0 ∨ S.1 ≤ Int32.toNatClampNeg (v3 + 1) then False else (if (v3 + 2) < 0 ∨ S.1 ≤ Int32.toNatClampNeg (v3 + 2) then False else (am_E S 304 (d + 60) cs ss 1028 [.retAddr 3, .ref 0, .ref 66, .int v3] [.int (S.2 (Int32.toNatClampNeg (v3 + 2))), .int (S.2 (Int32.toNatClampNeg (v3 + 1))), .ref 66, .int q] (N, am_ts T, I1, L, am_rs r) Q))) from ?_)
  refine am_ifn hb1 ?_
  refine am_ifn hb2 ?_
  refine am_E.go (show (if (am_cat [.int q] ≤ 8 ∧ cs + am_mc 278 ≤ am_mc 304 ∧ ss + am_ms 278 ≤ am_ms 304 ∧ (am_en 278 [.ref 66, .int (S.2 (Int32.toNatClampNeg (v3 + 1))), .int (S.2 (Int32.toNatClampNeg (v3 + 2)))]).length = am_ml 278) then _ else False) from ?_)
  refine am_ifp ⟨(show 1 ≤ 8 by decide), (show cs + 0 ≤ 10000 by omega), (show ss + 0 ≤ 6000000 by omega), rfl⟩ ?_
  refine ⟨am_ki_I N T L r _, s_278 hw (fun q2 I2 hk => ⟨q2, I2, rfl, rfl, hk⟩), ?_⟩
  intro v h9 hv
  obtain ⟨q2, I2, rfl, rfl, hw⟩ := hv
  try dsimp only at hw
  refine am_E.run [1332] 200 (show (if q = q2 then (am_E S 304 (d + 60) cs ss 1332 [.retAddr 3, .ref 0, .ref 66, .int v3] [] (N, am_ts T, I2, L, am_rs r) Q) else (((0 : Int32) = 0 ∨ (0 : Int32) = 1) ∧ Q (some (.int 0)) (N, am_ts T, I2, L, am_rs r))) from ?_)
  refine am_ifp hw.1 ?_
  exact (hn _ _ _ _ _ hw.2).cs (by omega) (by omega)
/-- tally: the class, then the reference -/
def op_30 (x1 : Int32) (x2 : Int32) (P : Nat → (Nat → Nat × Nat) → (Nat → Nat → Option Nat) → am_I → am_J → Prop) (N : Nat) (T : Nat → Nat × Nat) (r : Nat → Nat → Option Nat) (I : am_I) (L : am_J) : Prop :=
  w_152 x1 x2 I (fun q I1 => w_281 x1 x2 I1 (fun q2 I2 => q = q2 ∧ P N T r I2 L))
set_option maxRecDepth 100000 in
theorem lc_30 {S : am_S} {d cs ss N : Nat} {T : Nat → Nat × Nat} {I : am_I} {L : am_J} {r : Nat → Nat → Option Nat} {Q : am_Q} {v3 : Int32} {P : Nat → (Nat → Nat × Nat) → (Nat → Nat → Option Nat) → am_I → am_J → Prop} (hb1 : ¬ ((v3 + 1) < 0 ∨ S.1 ≤ Int32.toNatClampNeg (v3 + 1))) (hb2 : ¬ ((v3 + 2) < 0 ∨ S.1 ≤ Int32.toNatClampNeg (v3 + 2))) (hcs : cs + 12 ≤ 10000) (hss : ss + 11333 ≤ 6000000) (hw : op_30 (S.2 (Int32.toNatClampNeg (v3 + 1))) (S.2 (Int32.toNatClampNeg (v3 + 2))) P N T r I L) (hn : ∀ N T r I L, P N T r I L → am_E S 304 (d + 60) (cs + 12) (ss + 11333) 1332 [.retAddr 3, .ref 0, .ref 66, .int v3] [] (N, am_ts T, I, L, am_rs r) Q) : am_E S 304 (d + 60) cs ss 1036 [.retAddr 3, .ref 0, .ref 66, .int v3] [] (N, am_ts T, I, L, am_rs r) Q := by
  unfold op_30 at hw
  refine am_E.run [1047] 200 (show (if (v3 + 1) < 0 ∨ S.1 ≤ Int32.toNatClampNeg (v3 + 1) then False else (if (v3 + 2) < 0 ∨ S.1 ≤ Int32.toNatClampNeg (v3 + 2) then False else (am_E S 304 (d + 60) cs ss 1047 [.retAddr 3, .ref 0, .ref 66, .int v3] [.int (S.2 (Int32.toNatClampNeg (v3 + 2))), .int (S.2 (Int32.toNatClampNeg (v3 + 1))), .ref 0] (N, am_ts T, I, L, am_rs r) Q))) from ?_)
  refine am_ifn hb1 ?_
  refine am_ifn hb2 ?_
  refine am_E.go (show (if (am_cat [] ≤ 8 ∧ cs + am_mc 152 ≤ am_mc 304 ∧ ss + am_ms 152 ≤ am_ms 304 ∧ (am_en 152 [.ref 0, .int (S.2 (Int32.toNatClampNeg (v3 + 1))), .int (S.2 (Int32.toNatClampNeg (v3 + 2)))]).length = am_ml 152) then _ else False) from ?_)
  refine am_ifp ⟨(show 0 ≤ 8 by decide), (show cs + 0 ≤ 10000 by omega), (show ss + 0 ≤ 6000000 by omega), rfl⟩ ?_
  refine ⟨am_ki_I N T L r _, s_152 hw (fun q I1 hk => ⟨q, I1, rfl, rfl, hk⟩), ?_⟩
  intro v h9 hv
  obtain ⟨q, I1, rfl, rfl, hw⟩ := hv
  try dsimp only at hw
  refine am_E.run [1061] 200 (show (if (v3 + 1) < 0 ∨ S.1 ≤ Int32.toNatClampNeg (v3 + 1) then False else (if (v3 + 2) < 0 ∨ S.1 ≤ Int32.toNatClampNeg (v3 + 2) then False else (am_E S 304 (d + 60) cs ss 1061 [.retAddr 3, .ref 0, .ref 66, .int v3] [.int (S.2 (Int32.toNatClampNeg (v3 + 2))), .int (S.2 (Int32.toNatClampNeg (v3 + 1))), .ref 66, .int q] (N, am_ts T, I1, L, am_rs r) Q))) from ?_)
  refine am_ifn hb1 ?_
  refine am_ifn hb2 ?_
  refine am_E.go (show (if (am_cat [.int q] ≤ 8 ∧ cs + am_mc 281 ≤ am_mc 304 ∧ ss + am_ms 281 ≤ am_ms 304 ∧ (am_en 281 [.ref 66, .int (S.2 (Int32.toNatClampNeg (v3 + 1))), .int (S.2 (Int32.toNatClampNeg (v3 + 2)))]).length = am_ml 281) then _ else False) from ?_)
  refine am_ifp ⟨(show 1 ≤ 8 by decide), (show cs + 0 ≤ 10000 by omega), (show ss + 0 ≤ 6000000 by omega), rfl⟩ ?_
  refine ⟨am_ki_I N T L r _, s_281 hw (fun q2 I2 hk => ⟨q2, I2, rfl, rfl, hk⟩), ?_⟩
  intro v h9 hv
  obtain ⟨q2, I2, rfl, rfl, hw⟩ := hv
  try dsimp only at hw
  refine am_E.run [1332] 200 (show (if q = q2 then (am_E S 304 (d + 60) cs ss 1332 [.retAddr 3, .ref 0, .ref 66, .int v3] [] (N, am_ts T, I2, L, am_rs r) Q) else (((0 : Int32) = 0 ∨ (0 : Int32) = 1) ∧ Q (some (.int 0)) (N, am_ts T, I2, L, am_rs r))) from ?_)
  refine am_ifp hw.1 ?_
  exact (hn _ _ _ _ _ hw.2).cs (by omega) (by omega)
/-- forget: the class, then the reference -/
def op_31 (P : Nat → (Nat → Nat × Nat) → (Nat → Nat → Option Nat) → am_I → am_J → Prop) (N : Nat) (T : Nat → Nat × Nat) (r : Nat → Nat → Option Nat) (I : am_I) (L : am_J) : Prop :=
  w_155 I (fun q I1 => w_282 I1 (fun q2 I2 => q = q2 ∧ P N T r I2 L))
set_option maxRecDepth 100000 in
theorem lc_31 {S : am_S} {d cs ss N : Nat} {T : Nat → Nat × Nat} {I : am_I} {L : am_J} {r : Nat → Nat → Option Nat} {Q : am_Q} {v3 : Int32} {P : Nat → (Nat → Nat × Nat) → (Nat → Nat → Option Nat) → am_I → am_J → Prop} (hcs : cs + 12 ≤ 10000) (hss : ss + 11333 ≤ 6000000) (hw : op_31 P N T r I L) (hn : ∀ N T r I L, P N T r I L → am_E S 304 (d + 60) (cs + 12) (ss + 11333) 1332 [.retAddr 3, .ref 0, .ref 66, .int v3] [] (N, am_ts T, I, L, am_rs r) Q) : am_E S 304 (d + 60) cs ss 1069 [.retAddr 3, .ref 0, .ref 66, .int v3] [] (N, am_ts T, I, L, am_rs r) Q := by
  unfold op_31 at hw
  refine am_E.run [1070] 200 (show (am_E S 304 (d + 60) cs ss 1070 [.retAddr 3, .ref 0, .ref 66, .int v3] [.ref 0] (N, am_ts T, I, L, am_rs r) Q) from ?_)
  refine am_E.go (show (if (am_cat [] ≤ 8 ∧ cs + am_mc 155 ≤ am_mc 304 ∧ ss + am_ms 155 ≤ am_ms 304 ∧ (am_en 155 [.ref 0]).length = am_ml 155) then _ else False) from ?_)
  refine am_ifp ⟨(show 0 ≤ 8 by decide), (show cs + 0 ≤ 10000 by omega), (show ss + 0 ≤ 6000000 by omega), rfl⟩ ?_
  refine ⟨am_ki_I N T L r _, s_155 hw (fun q I1 hk => ⟨q, I1, rfl, rfl, hk⟩), ?_⟩
  intro v h9 hv
  obtain ⟨q, I1, rfl, rfl, hw⟩ := hv
  try dsimp only at hw
  refine am_E.run [1074] 200 (show (am_E S 304 (d + 60) cs ss 1074 [.retAddr 3, .ref 0, .ref 66, .int v3] [.ref 66, .int q] (N, am_ts T, I1, L, am_rs r) Q) from ?_)
  refine am_E.go (show (if (am_cat [.int q] ≤ 8 ∧ cs + am_mc 282 ≤ am_mc 304 ∧ ss + am_ms 282 ≤ am_ms 304 ∧ (am_en 282 [.ref 66]).length = am_ml 282) then _ else False) from ?_)
  refine am_ifp ⟨(show 1 ≤ 8 by decide), (show cs + 0 ≤ 10000 by omega), (show ss + 0 ≤ 6000000 by omega), rfl⟩ ?_
  refine ⟨am_ki_I N T L r _, s_282 hw (fun q2 I2 hk => ⟨q2, I2, rfl, rfl, hk⟩), ?_⟩
  intro v h9 hv
  obtain ⟨q2, I2, rfl, rfl, hw⟩ := hv
  try dsimp only at hw
  refine am_E.run [1332] 200 (show (if q = q2 then (am_E S 304 (d + 60) cs ss 1332 [.retAddr 3, .ref 0, .ref 66, .int v3] [] (N, am_ts T, I2, L, am_rs r) Q) else (((0 : Int32) = 0 ∨ (0 : Int32) = 1) ∧ Q (some (.int 0)) (N, am_ts T, I2, L, am_rs r))) from ?_)
  refine am_ifp hw.1 ?_
  exact (hn _ _ _ _ _ hw.2).cs (by omega) (by omega)
/-- out: the class, then the reference -/
def op_32 (x1 : Int32) (P : Nat → (Nat → Nat × Nat) → (Nat → Nat → Option Nat) → am_I → am_J → Prop) (N : Nat) (T : Nat → Nat × Nat) (r : Nat → Nat → Option Nat) (I : am_I) (L : am_J) : Prop :=
  w_156 x1 I (fun q I1 => w_283 x1 I1 (fun q2 I2 => q = q2 ∧ P N T r I2 L))
set_option maxRecDepth 100000 in
theorem lc_32 {S : am_S} {d cs ss N : Nat} {T : Nat → Nat × Nat} {I : am_I} {L : am_J} {r : Nat → Nat → Option Nat} {Q : am_Q} {v3 : Int32} {P : Nat → (Nat → Nat × Nat) → (Nat → Nat → Option Nat) → am_I → am_J → Prop} (hb1 : ¬ ((v3 + 1) < 0 ∨ S.1 ≤ Int32.toNatClampNeg (v3 + 1))) (hcs : cs + 12 ≤ 10000) (hss : ss + 11333 ≤ 6000000) (hw : op_32 (S.2 (Int32.toNatClampNeg (v3 + 1))) P N T r I L) (hn : ∀ N T r I L, P N T r I L → am_E S 304 (d + 60) (cs + 12) (ss + 11333) 1332 [.retAddr 3, .ref 0, .ref 66, .int v3] [] (N, am_ts T, I, L, am_rs r) Q) : am_E S 304 (d + 60) cs ss 1082 [.retAddr 3, .ref 0, .ref 66, .int v3] [] (N, am_ts T, I, L, am_rs r) Q := by
  unfold op_32 at hw
  refine am_E.run [1088] 200 (show (if (v3 + 1) < 0 ∨ S.1 ≤ Int32.toNatClampNeg (v3 + 1) then False else (am_E S 304 (d + 60) cs ss 1088 [.retAddr 3, .ref 0, .ref 66, .int v3] [.int (S.2 (Int32.toNatClampNeg (v3 + 1))), .ref 0] (N, am_ts T, I, L, am_rs r) Q)) from ?_)
  refine am_ifn hb1 ?_
  refine am_E.go (show (if (am_cat [] ≤ 8 ∧ cs + am_mc 156 ≤ am_mc 304 ∧ ss + am_ms 156 ≤ am_ms 304 ∧ (am_en 156 [.ref 0, .int (S.2 (Int32.toNatClampNeg (v3 + 1)))]).length = am_ml 156) then _ else False) from ?_)
  refine am_ifp ⟨(show 0 ≤ 8 by decide), (show cs + 0 ≤ 10000 by omega), (show ss + 0 ≤ 6000000 by omega), rfl⟩ ?_
  refine ⟨am_ki_I N T L r _, s_156 hw (fun q I1 hk => ⟨q, I1, rfl, rfl, hk⟩), ?_⟩
  intro v h9 hv
  obtain ⟨q, I1, rfl, rfl, hw⟩ := hv
  try dsimp only at hw
  refine am_E.run [1097] 200 (show (if (v3 + 1) < 0 ∨ S.1 ≤ Int32.toNatClampNeg (v3 + 1) then False else (am_E S 304 (d + 60) cs ss 1097 [.retAddr 3, .ref 0, .ref 66, .int v3] [.int (S.2 (Int32.toNatClampNeg (v3 + 1))), .ref 66, .int q] (N, am_ts T, I1, L, am_rs r) Q)) from ?_)
  refine am_ifn hb1 ?_
  refine am_E.go (show (if (am_cat [.int q] ≤ 8 ∧ cs + am_mc 283 ≤ am_mc 304 ∧ ss + am_ms 283 ≤ am_ms 304 ∧ (am_en 283 [.ref 66, .int (S.2 (Int32.toNatClampNeg (v3 + 1)))]).length = am_ml 283) then _ else False) from ?_)
  refine am_ifp ⟨(show 1 ≤ 8 by decide), (show cs + 0 ≤ 10000 by omega), (show ss + 0 ≤ 6000000 by omega), rfl⟩ ?_
  refine ⟨am_ki_I N T L r _, s_283 hw (fun q2 I2 hk => ⟨q2, I2, rfl, rfl, hk⟩), ?_⟩
  intro v h9 hv
  obtain ⟨q2, I2, rfl, rfl, hw⟩ := hv
  try dsimp only at hw
  refine am_E.run [1332] 200 (show (if q = q2 then (am_E S 304 (d + 60) cs ss 1332 [.retAddr 3, .ref 0, .ref 66, .int v3] [] (N, am_ts T, I2, L, am_rs r) Q) else (((0 : Int32) = 0 ∨ (0 : Int32) = 1) ∧ Q (some (.int 0)) (N, am_ts T, I2, L, am_rs r))) from ?_)
  refine am_ifp hw.1 ?_
  exact (hn _ _ _ _ _ hw.2).cs (by omega) (by omega)
/-- next: the class, then the reference -/
def op_33 (x1 : Int32) (P : Nat → (Nat → Nat × Nat) → (Nat → Nat → Option Nat) → am_I → am_J → Prop) (N : Nat) (T : Nat → Nat × Nat) (r : Nat → Nat → Option Nat) (I : am_I) (L : am_J) : Prop :=
  w_159 x1 I (fun q I1 => w_285 x1 I1 (fun q2 I2 => q = q2 ∧ P N T r I2 L))
set_option maxRecDepth 100000 in
theorem lc_33 {S : am_S} {d cs ss N : Nat} {T : Nat → Nat × Nat} {I : am_I} {L : am_J} {r : Nat → Nat → Option Nat} {Q : am_Q} {v3 : Int32} {P : Nat → (Nat → Nat × Nat) → (Nat → Nat → Option Nat) → am_I → am_J → Prop} (hb1 : ¬ ((v3 + 1) < 0 ∨ S.1 ≤ Int32.toNatClampNeg (v3 + 1))) (hcs : cs + 12 ≤ 10000) (hss : ss + 11333 ≤ 6000000) (hw : op_33 (S.2 (Int32.toNatClampNeg (v3 + 1))) P N T r I L) (hn : ∀ N T r I L, P N T r I L → am_E S 304 (d + 60) (cs + 12) (ss + 11333) 1332 [.retAddr 3, .ref 0, .ref 66, .int v3] [] (N, am_ts T, I, L, am_rs r) Q) : am_E S 304 (d + 60) cs ss 1105 [.retAddr 3, .ref 0, .ref 66, .int v3] [] (N, am_ts T, I, L, am_rs r) Q := by
  unfold op_33 at hw
  refine am_E.run [1111] 200 (show (if (v3 + 1) < 0 ∨ S.1 ≤ Int32.toNatClampNeg (v3 + 1) then False else (am_E S 304 (d + 60) cs ss 1111 [.retAddr 3, .ref 0, .ref 66, .int v3] [.int (S.2 (Int32.toNatClampNeg (v3 + 1))), .ref 0] (N, am_ts T, I, L, am_rs r) Q)) from ?_)
  refine am_ifn hb1 ?_
  refine am_E.go (show (if (am_cat [] ≤ 8 ∧ cs + am_mc 159 ≤ am_mc 304 ∧ ss + am_ms 159 ≤ am_ms 304 ∧ (am_en 159 [.ref 0, .int (S.2 (Int32.toNatClampNeg (v3 + 1)))]).length = am_ml 159) then _ else False) from ?_)
  refine am_ifp ⟨(show 0 ≤ 8 by decide), (show cs + 0 ≤ 10000 by omega), (show ss + 0 ≤ 6000000 by omega), rfl⟩ ?_
  refine ⟨am_ki_I N T L r _, s_159 hw (fun q I1 hk => ⟨q, I1, rfl, rfl, hk⟩), ?_⟩
  intro v h9 hv
  obtain ⟨q, I1, rfl, rfl, hw⟩ := hv
  try dsimp only at hw
  refine am_E.run [1120] 200 (show (if (v3 + 1) < 0 ∨ S.1 ≤ Int32.toNatClampNeg (v3 + 1) then False else (am_E S 304 (d + 60) cs ss 1120 [.retAddr 3, .ref 0, .ref 66, .int v3] [.int (S.2 (Int32.toNatClampNeg (v3 + 1))), .ref 66, .int q] (N, am_ts T, I1, L, am_rs r) Q)) from ?_)
  refine am_ifn hb1 ?_
  refine am_E.go (show (if (am_cat [.int q] ≤ 8 ∧ cs + am_mc 285 ≤ am_mc 304 ∧ ss + am_ms 285 ≤ am_ms 304 ∧ (am_en 285 [.ref 66, .int (S.2 (Int32.toNatClampNeg (v3 + 1)))]).length = am_ml 285) then _ else False) from ?_)
  refine am_ifp ⟨(show 1 ≤ 8 by decide), (show cs + 0 ≤ 10000 by omega), (show ss + 0 ≤ 6000000 by omega), rfl⟩ ?_
  refine ⟨am_ki_I N T L r _, s_285 hw (fun q2 I2 hk => ⟨q2, I2, rfl, rfl, hk⟩), ?_⟩
  intro v h9 hv
  obtain ⟨q2, I2, rfl, rfl, hw⟩ := hv
  try dsimp only at hw
  refine am_E.run [1332] 200 (show (if q = q2 then (am_E S 304 (d + 60) cs ss 1332 [.retAddr 3, .ref 0, .ref 66, .int v3] [] (N, am_ts T, I2, L, am_rs r) Q) else (((0 : Int32) = 0 ∨ (0 : Int32) = 1) ∧ Q (some (.int 0)) (N, am_ts T, I2, L, am_rs r))) from ?_)
  refine am_ifp hw.1 ?_
  exact (hn _ _ _ _ _ hw.2).cs (by omega) (by omega)
/-- voted: the class, then the reference -/
def op_34 (x1 : Int32) (P : Nat → (Nat → Nat × Nat) → (Nat → Nat → Option Nat) → am_I → am_J → Prop) (N : Nat) (T : Nat → Nat × Nat) (r : Nat → Nat → Option Nat) (I : am_I) (L : am_J) : Prop :=
  w_163 x1 T r I (fun q I1 => w_287 x1 I1 L (fun q2 I2 L2 => q = q2 ∧ P N T r I2 L2))
set_option maxRecDepth 100000 in
theorem lc_34 {S : am_S} {d cs ss N : Nat} {T : Nat → Nat × Nat} {I : am_I} {L : am_J} {r : Nat → Nat → Option Nat} {Q : am_Q} {v3 : Int32} {P : Nat → (Nat → Nat × Nat) → (Nat → Nat → Option Nat) → am_I → am_J → Prop} (hb1 : ¬ ((v3 + 1) < 0 ∨ S.1 ≤ Int32.toNatClampNeg (v3 + 1))) (hcs : cs + 12 ≤ 10000) (hss : ss + 11333 ≤ 6000000) (hw : op_34 (S.2 (Int32.toNatClampNeg (v3 + 1))) P N T r I L) (hn : ∀ N T r I L, P N T r I L → am_E S 304 (d + 60) (cs + 12) (ss + 11333) 1332 [.retAddr 3, .ref 0, .ref 66, .int v3] [] (N, am_ts T, I, L, am_rs r) Q) : am_E S 304 (d + 60) cs ss 1128 [.retAddr 3, .ref 0, .ref 66, .int v3] [] (N, am_ts T, I, L, am_rs r) Q := by
  unfold op_34 at hw
  refine am_E.run [1134] 200 (show (if (v3 + 1) < 0 ∨ S.1 ≤ Int32.toNatClampNeg (v3 + 1) then False else (am_E S 304 (d + 60) cs ss 1134 [.retAddr 3, .ref 0, .ref 66, .int v3] [.int (S.2 (Int32.toNatClampNeg (v3 + 1))), .ref 0] (N, am_ts T, I, L, am_rs r) Q)) from ?_)
  refine am_ifn hb1 ?_
  refine am_E.go (show (if (am_cat [] ≤ 8 ∧ cs + am_mc 163 ≤ am_mc 304 ∧ ss + am_ms 163 ≤ am_ms 304 ∧ (am_en 163 [.ref 0, .int (S.2 (Int32.toNatClampNeg (v3 + 1)))]).length = am_ml 163) then _ else False) from ?_)
  refine am_ifp ⟨(show 0 ≤ 8 by decide), (show cs + 0 ≤ 10000 by omega), (show ss + 0 ≤ 6000000 by omega), rfl⟩ ?_
  refine ⟨am_ki_I N T L r _, s_163 hw (fun q I1 hk => ⟨q, I1, rfl, rfl, hk⟩), ?_⟩
  intro v h9 hv
  obtain ⟨q, I1, rfl, rfl, hw⟩ := hv
  try dsimp only at hw
  refine am_E.run [1143] 200 (show (if (v3 + 1) < 0 ∨ S.1 ≤ Int32.toNatClampNeg (v3 + 1) then False else (am_E S 304 (d + 60) cs ss 1143 [.retAddr 3, .ref 0, .ref 66, .int v3] [.int (S.2 (Int32.toNatClampNeg (v3 + 1))), .ref 66, .int q] (N, am_ts T, I1, L, am_rs r) Q)) from ?_)
  refine am_ifn hb1 ?_
  refine am_E.go (show (if (am_cat [.int q] ≤ 8 ∧ cs + am_mc 287 ≤ am_mc 304 ∧ ss + am_ms 287 ≤ am_ms 304 ∧ (am_en 287 [.ref 66, .int (S.2 (Int32.toNatClampNeg (v3 + 1)))]).length = am_ml 287) then _ else False) from ?_)
  refine am_ifp ⟨(show 1 ≤ 8 by decide), (show cs + 0 ≤ 10000 by omega), (show ss + 0 ≤ 6000000 by omega), rfl⟩ ?_
  refine ⟨am_ki_IL N T r _, s_287 hw (fun q2 I2 L2 hk => ⟨q2, I2, L2, rfl, rfl, hk⟩), ?_⟩
  intro v h9 hv
  obtain ⟨q2, I2, L2, rfl, rfl, hw⟩ := hv
  try dsimp only at hw
  refine am_E.run [1332] 200 (show (if q = q2 then (am_E S 304 (d + 60) cs ss 1332 [.retAddr 3, .ref 0, .ref 66, .int v3] [] (N, am_ts T, I2, L2, am_rs r) Q) else (((0 : Int32) = 0 ∨ (0 : Int32) = 1) ∧ Q (some (.int 0)) (N, am_ts T, I2, L2, am_rs r))) from ?_)
  refine am_ifp hw.1 ?_
  exact (hn _ _ _ _ _ hw.2).cs (by omega) (by omega)
/-- sure: the class, then the reference -/
def op_35 (x1 : Int32) (x2 : Int32) (P : Nat → (Nat → Nat × Nat) → (Nat → Nat → Option Nat) → am_I → am_J → Prop) (N : Nat) (T : Nat → Nat × Nat) (r : Nat → Nat → Option Nat) (I : am_I) (L : am_J) : Prop :=
  w_166 x1 x2 I (fun q I1 => w_289 x1 x2 I1 (fun q2 I2 => q = q2 ∧ P N T r I2 L))
set_option maxRecDepth 100000 in
theorem lc_35 {S : am_S} {d cs ss N : Nat} {T : Nat → Nat × Nat} {I : am_I} {L : am_J} {r : Nat → Nat → Option Nat} {Q : am_Q} {v3 : Int32} {P : Nat → (Nat → Nat × Nat) → (Nat → Nat → Option Nat) → am_I → am_J → Prop} (hb1 : ¬ ((v3 + 1) < 0 ∨ S.1 ≤ Int32.toNatClampNeg (v3 + 1))) (hb2 : ¬ ((v3 + 2) < 0 ∨ S.1 ≤ Int32.toNatClampNeg (v3 + 2))) (hcs : cs + 12 ≤ 10000) (hss : ss + 11333 ≤ 6000000) (hw : op_35 (S.2 (Int32.toNatClampNeg (v3 + 1))) (S.2 (Int32.toNatClampNeg (v3 + 2))) P N T r I L) (hn : ∀ N T r I L, P N T r I L → am_E S 304 (d + 60) (cs + 12) (ss + 11333) 1332 [.retAddr 3, .ref 0, .ref 66, .int v3] [] (N, am_ts T, I, L, am_rs r) Q) : am_E S 304 (d + 60) cs ss 1151 [.retAddr 3, .ref 0, .ref 66, .int v3] [] (N, am_ts T, I, L, am_rs r) Q := by
  unfold op_35 at hw
  refine am_E.run [1162] 200 (show (if (v3 + 1) < 0 ∨ S.1 ≤ Int32.toNatClampNeg (v3 + 1) then False else (if (v3 + 2) < 0 ∨ S.1 ≤ Int32.toNatClampNeg (v3 + 2) then False else (am_E S 304 (d + 60) cs ss 1162 [.retAddr 3, .ref 0, .ref 66, .int v3] [.int (S.2 (Int32.toNatClampNeg (v3 + 2))), .int (S.2 (Int32.toNatClampNeg (v3 + 1))), .ref 0] (N, am_ts T, I, L, am_rs r) Q))) from ?_)
  refine am_ifn hb1 ?_
  refine am_ifn hb2 ?_
  refine am_E.go (show (if (am_cat [] ≤ 8 ∧ cs + am_mc 166 ≤ am_mc 304 ∧ ss + am_ms 166 ≤ am_ms 304 ∧ (am_en 166 [.ref 0, .int (S.2 (Int32.toNatClampNeg (v3 + 1))), .int (S.2 (Int32.toNatClampNeg (v3 + 2)))]).length = am_ml 166) then _ else False) from ?_)
  refine am_ifp ⟨(show 0 ≤ 8 by decide), (show cs + 0 ≤ 10000 by omega), (show ss + 0 ≤ 6000000 by omega), rfl⟩ ?_
  refine ⟨am_ki_I N T L r _, s_166 hw (fun q I1 hk => ⟨q, I1, rfl, rfl, hk⟩), ?_⟩
  intro v h9 hv
  obtain ⟨q, I1, rfl, rfl, hw⟩ := hv
  try dsimp only at hw
  refine am_E.run [1176] 200 (show (if (v3 + 1) < 0 ∨ S.1 ≤ Int32.toNatClampNeg (v3 + 1) then False else (if (v3 + 2) < 0 ∨ S.1 ≤ Int32.toNatClampNeg (v3 + 2) then False else (am_E S 304 (d + 60) cs ss 1176 [.retAddr 3, .ref 0, .ref 66, .int v3] [.int (S.2 (Int32.toNatClampNeg (v3 + 2))), .int (S.2 (Int32.toNatClampNeg (v3 + 1))), .ref 66, .int q] (N, am_ts T, I1, L, am_rs r) Q))) from ?_)
  refine am_ifn hb1 ?_
  refine am_ifn hb2 ?_
  refine am_E.go (show (if (am_cat [.int q] ≤ 8 ∧ cs + am_mc 289 ≤ am_mc 304 ∧ ss + am_ms 289 ≤ am_ms 304 ∧ (am_en 289 [.ref 66, .int (S.2 (Int32.toNatClampNeg (v3 + 1))), .int (S.2 (Int32.toNatClampNeg (v3 + 2)))]).length = am_ml 289) then _ else False) from ?_)
  refine am_ifp ⟨(show 1 ≤ 8 by decide), (show cs + 0 ≤ 10000 by omega), (show ss + 0 ≤ 6000000 by omega), rfl⟩ ?_
  refine ⟨am_ki_I N T L r _, s_289 hw (fun q2 I2 hk => ⟨q2, I2, rfl, rfl, hk⟩), ?_⟩
  intro v h9 hv
  obtain ⟨q2, I2, rfl, rfl, hw⟩ := hv
  try dsimp only at hw
  refine am_E.run [1332] 200 (show (if q = q2 then (am_E S 304 (d + 60) cs ss 1332 [.retAddr 3, .ref 0, .ref 66, .int v3] [] (N, am_ts T, I2, L, am_rs r) Q) else (((0 : Int32) = 0 ∨ (0 : Int32) = 1) ∧ Q (some (.int 0)) (N, am_ts T, I2, L, am_rs r))) from ?_)
  refine am_ifp hw.1 ?_
  exact (hn _ _ _ _ _ hw.2).cs (by omega) (by omega)
/-- nights: the class, then the reference -/
def op_36 (x1 : Int32) (x2 : Int32) (P : Nat → (Nat → Nat × Nat) → (Nat → Nat → Option Nat) → am_I → am_J → Prop) (N : Nat) (T : Nat → Nat × Nat) (r : Nat → Nat → Option Nat) (I : am_I) (L : am_J) : Prop :=
  w_168 x1 x2 T r I (fun q I1 => w_299 x1 x2 I1 L (fun q2 I2 L2 => q = q2 ∧ P N T r I2 L2))
set_option maxRecDepth 100000 in
theorem lc_36 {S : am_S} {d cs ss N : Nat} {T : Nat → Nat × Nat} {I : am_I} {L : am_J} {r : Nat → Nat → Option Nat} {Q : am_Q} {v3 : Int32} {P : Nat → (Nat → Nat × Nat) → (Nat → Nat → Option Nat) → am_I → am_J → Prop} (hb1 : ¬ ((v3 + 1) < 0 ∨ S.1 ≤ Int32.toNatClampNeg (v3 + 1))) (hb2 : ¬ ((v3 + 2) < 0 ∨ S.1 ≤ Int32.toNatClampNeg (v3 + 2))) (hcs : cs + 12 ≤ 10000) (hss : ss + 11333 ≤ 6000000) (hw : op_36 (S.2 (Int32.toNatClampNeg (v3 + 1))) (S.2 (Int32.toNatClampNeg (v3 + 2))) P N T r I L) (hn : ∀ N T r I L, P N T r I L → am_E S 304 (d + 60) (cs + 12) (ss + 11333) 1332 [.retAddr 3, .ref 0, .ref 66, .int v3] [] (N, am_ts T, I, L, am_rs r) Q) : am_E S 304 (d + 60) cs ss 1184 [.retAddr 3, .ref 0, .ref 66, .int v3] [] (N, am_ts T, I, L, am_rs r) Q := by
  unfold op_36 at hw
  refine am_E.run [1195] 200 (show (if (v3 + 1) < 0 ∨ S.1 ≤ Int32.toNatClampNeg (v3 + 1) then False else (if (v3 + 2) < 0 ∨ S.1 ≤ Int32.toNatClampNeg (v3 + 2) then False else (am_E S 304 (d + 60) cs ss 1195 [.retAddr 3, .ref 0, .ref 66, .int v3] [.int (S.2 (Int32.toNatClampNeg (v3 + 2))), .int (S.2 (Int32.toNatClampNeg (v3 + 1))), .ref 0] (N, am_ts T, I, L, am_rs r) Q))) from ?_)
  refine am_ifn hb1 ?_
  refine am_ifn hb2 ?_
  refine am_E.go (show (if (am_cat [] ≤ 8 ∧ cs + am_mc 168 ≤ am_mc 304 ∧ ss + am_ms 168 ≤ am_ms 304 ∧ (am_en 168 [.ref 0, .int (S.2 (Int32.toNatClampNeg (v3 + 1))), .int (S.2 (Int32.toNatClampNeg (v3 + 2)))]).length = am_ml 168) then _ else False) from ?_)
  refine am_ifp ⟨(show 0 ≤ 8 by decide), (show cs + 0 ≤ 10000 by omega), (show ss + 0 ≤ 6000000 by omega), rfl⟩ ?_
  refine ⟨am_ki_I N T L r _, s_168 hw (fun q I1 hk => ⟨q, I1, rfl, rfl, hk⟩), ?_⟩
  intro v h9 hv
  obtain ⟨q, I1, rfl, rfl, hw⟩ := hv
  try dsimp only at hw
  refine am_E.run [1209] 200 (show (if (v3 + 1) < 0 ∨ S.1 ≤ Int32.toNatClampNeg (v3 + 1) then False else (if (v3 + 2) < 0 ∨ S.1 ≤ Int32.toNatClampNeg (v3 + 2) then False else (am_E S 304 (d + 60) cs ss 1209 [.retAddr 3, .ref 0, .ref 66, .int v3] [.int (S.2 (Int32.toNatClampNeg (v3 + 2))), .int (S.2 (Int32.toNatClampNeg (v3 + 1))), .ref 66, .int q] (N, am_ts T, I1, L, am_rs r) Q))) from ?_)
  refine am_ifn hb1 ?_
  refine am_ifn hb2 ?_
  refine am_E.go (show (if (am_cat [.int q] ≤ 8 ∧ cs + am_mc 299 ≤ am_mc 304 ∧ ss + am_ms 299 ≤ am_ms 304 ∧ (am_en 299 [.ref 66, .int (S.2 (Int32.toNatClampNeg (v3 + 1))), .int (S.2 (Int32.toNatClampNeg (v3 + 2)))]).length = am_ml 299) then _ else False) from ?_)
  refine am_ifp ⟨(show 1 ≤ 8 by decide), (show cs + 0 ≤ 10000 by omega), (show ss + 0 ≤ 6000000 by omega), rfl⟩ ?_
  refine ⟨am_ki_IL N T r _, s_299 hw (fun q2 I2 L2 hk => ⟨q2, I2, L2, rfl, rfl, hk⟩), ?_⟩
  intro v h9 hv
  obtain ⟨q2, I2, L2, rfl, rfl, hw⟩ := hv
  try dsimp only at hw
  refine am_E.run [1332] 200 (show (if q = q2 then (am_E S 304 (d + 60) cs ss 1332 [.retAddr 3, .ref 0, .ref 66, .int v3] [] (N, am_ts T, I2, L2, am_rs r) Q) else (((0 : Int32) = 0 ∨ (0 : Int32) = 1) ∧ Q (some (.int 0)) (N, am_ts T, I2, L2, am_rs r))) from ?_)
  refine am_ifp hw.1 ?_
  exact (hn _ _ _ _ _ hw.2).cs (by omega) (by omega)
/-- drawn: the class, then the reference -/
def op_37 (x1 : Int32) (x2 : Int32) (P : Nat → (Nat → Nat × Nat) → (Nat → Nat → Option Nat) → am_I → am_J → Prop) (N : Nat) (T : Nat → Nat × Nat) (r : Nat → Nat → Option Nat) (I : am_I) (L : am_J) : Prop :=
  w_172 x1 x2 I (fun q => w_301 x1 x2 I (fun q2 I2 => q = q2 ∧ P N T r I2 L))
set_option maxRecDepth 100000 in
theorem lc_37 {S : am_S} {d cs ss N : Nat} {T : Nat → Nat × Nat} {I : am_I} {L : am_J} {r : Nat → Nat → Option Nat} {Q : am_Q} {v3 : Int32} {P : Nat → (Nat → Nat × Nat) → (Nat → Nat → Option Nat) → am_I → am_J → Prop} (hb1 : ¬ ((v3 + 1) < 0 ∨ S.1 ≤ Int32.toNatClampNeg (v3 + 1))) (hb2 : ¬ ((v3 + 2) < 0 ∨ S.1 ≤ Int32.toNatClampNeg (v3 + 2))) (hcs : cs + 12 ≤ 10000) (hss : ss + 11333 ≤ 6000000) (hw : op_37 (S.2 (Int32.toNatClampNeg (v3 + 1))) (S.2 (Int32.toNatClampNeg (v3 + 2))) P N T r I L) (hn : ∀ N T r I L, P N T r I L → am_E S 304 (d + 60) (cs + 12) (ss + 11333) 1332 [.retAddr 3, .ref 0, .ref 66, .int v3] [] (N, am_ts T, I, L, am_rs r) Q) : am_E S 304 (d + 60) cs ss 1217 [.retAddr 3, .ref 0, .ref 66, .int v3] [] (N, am_ts T, I, L, am_rs r) Q := by
  unfold op_37 at hw
  refine am_E.run [1228] 200 (show (if (v3 + 1) < 0 ∨ S.1 ≤ Int32.toNatClampNeg (v3 + 1) then False else (if (v3 + 2) < 0 ∨ S.1 ≤ Int32.toNatClampNeg (v3 + 2) then False else (am_E S 304 (d + 60) cs ss 1228 [.retAddr 3, .ref 0, .ref 66, .int v3] [.int (S.2 (Int32.toNatClampNeg (v3 + 2))), .int (S.2 (Int32.toNatClampNeg (v3 + 1))), .ref 0] (N, am_ts T, I, L, am_rs r) Q))) from ?_)
  refine am_ifn hb1 ?_
  refine am_ifn hb2 ?_
  refine am_E.go (show (if (am_cat [] ≤ 8 ∧ cs + am_mc 172 ≤ am_mc 304 ∧ ss + am_ms 172 ≤ am_ms 304 ∧ (am_en 172 [.ref 0, .int (S.2 (Int32.toNatClampNeg (v3 + 1))), .int (S.2 (Int32.toNatClampNeg (v3 + 2)))]).length = am_ml 172) then _ else False) from ?_)
  refine am_ifp ⟨(show 0 ≤ 8 by decide), (show cs + 0 ≤ 10000 by omega), (show ss + 0 ≤ 6000000 by omega), rfl⟩ ?_
  refine ⟨am_ki_ N T I L r _, s_172 hw (fun q hk => ⟨q, rfl, rfl, hk⟩), ?_⟩
  intro v h9 hv
  obtain ⟨q, rfl, rfl, hw⟩ := hv
  try dsimp only at hw
  refine am_E.run [1242] 200 (show (if (v3 + 1) < 0 ∨ S.1 ≤ Int32.toNatClampNeg (v3 + 1) then False else (if (v3 + 2) < 0 ∨ S.1 ≤ Int32.toNatClampNeg (v3 + 2) then False else (am_E S 304 (d + 60) cs ss 1242 [.retAddr 3, .ref 0, .ref 66, .int v3] [.int (S.2 (Int32.toNatClampNeg (v3 + 2))), .int (S.2 (Int32.toNatClampNeg (v3 + 1))), .ref 66, .int q] (N, am_ts T, I, L, am_rs r) Q))) from ?_)
  refine am_ifn hb1 ?_
  refine am_ifn hb2 ?_
  refine am_E.go (show (if (am_cat [.int q] ≤ 8 ∧ cs + am_mc 301 ≤ am_mc 304 ∧ ss + am_ms 301 ≤ am_ms 304 ∧ (am_en 301 [.ref 66, .int (S.2 (Int32.toNatClampNeg (v3 + 1))), .int (S.2 (Int32.toNatClampNeg (v3 + 2)))]).length = am_ml 301) then _ else False) from ?_)
  refine am_ifp ⟨(show 1 ≤ 8 by decide), (show cs + 0 ≤ 10000 by omega), (show ss + 0 ≤ 6000000 by omega), rfl⟩ ?_
  refine ⟨am_ki_I N T L r _, s_301 hw (fun q2 I2 hk => ⟨q2, I2, rfl, rfl, hk⟩), ?_⟩
  intro v h9 hv
  obtain ⟨q2, I2, rfl, rfl, hw⟩ := hv
  try dsimp only at hw
  refine am_E.run [1332] 200 (show (if q = q2 then (am_E S 304 (d + 60) cs ss 1332 [.retAddr 3, .ref 0, .ref 66, .int v3] [] (N, am_ts T, I2, L, am_rs r) Q) else (((0 : Int32) = 0 ∨ (0 : Int32) = 1) ∧ Q (some (.int 0)) (N, am_ts T, I2, L, am_rs r))) from ?_)
  refine am_ifp hw.1 ?_
  exact (hn _ _ _ _ _ hw.2).cs (by omega) (by omega)
/-- image: the class, then the reference -/
def op_38 (x1 : Int32) (P : Nat → (Nat → Nat × Nat) → (Nat → Nat → Option Nat) → am_I → am_J → Prop) (N : Nat) (T : Nat → Nat × Nat) (r : Nat → Nat → Option Nat) (I : am_I) (L : am_J) : Prop :=
  w_173 x1 N T r I L (fun q N1 T1 r1 I1 L1 => w_181 x1 I1 (fun q2 I2 => q = q2 ∧ P N1 T1 r1 I2 L1))
set_option maxRecDepth 100000 in
theorem lc_38 {S : am_S} {d cs ss N : Nat} {T : Nat → Nat × Nat} {I : am_I} {L : am_J} {r : Nat → Nat → Option Nat} {Q : am_Q} {v3 : Int32} {P : Nat → (Nat → Nat × Nat) → (Nat → Nat → Option Nat) → am_I → am_J → Prop} (hb1 : ¬ ((v3 + 1) < 0 ∨ S.1 ≤ Int32.toNatClampNeg (v3 + 1))) (hcs : cs + 12 ≤ 10000) (hss : ss + 11333 ≤ 6000000) (hw : op_38 (S.2 (Int32.toNatClampNeg (v3 + 1))) P N T r I L) (hn : ∀ N T r I L, P N T r I L → am_E S 304 (d + 60) (cs + 12) (ss + 11333) 1332 [.retAddr 3, .ref 0, .ref 66, .int v3] [] (N, am_ts T, I, L, am_rs r) Q) : am_E S 304 (d + 60) cs ss 1250 [.retAddr 3, .ref 0, .ref 66, .int v3] [] (N, am_ts T, I, L, am_rs r) Q := by
  unfold op_38 at hw
  refine am_E.run [1256] 200 (show (if (v3 + 1) < 0 ∨ S.1 ≤ Int32.toNatClampNeg (v3 + 1) then False else (am_E S 304 (d + 60) cs ss 1256 [.retAddr 3, .ref 0, .ref 66, .int v3] [.int (S.2 (Int32.toNatClampNeg (v3 + 1))), .ref 0] (N, am_ts T, I, L, am_rs r) Q)) from ?_)
  refine am_ifn hb1 ?_
  refine am_E.go (show (if (am_cat [] ≤ 8 ∧ cs + am_mc 173 ≤ am_mc 304 ∧ ss + am_ms 173 ≤ am_ms 304 ∧ (am_en 173 [.ref 0, .int (S.2 (Int32.toNatClampNeg (v3 + 1)))]).length = am_ml 173) then _ else False) from ?_)
  refine am_ifp ⟨(show 0 ≤ 8 by decide), (show cs + 12 ≤ 10000 by omega), (show ss + 109 ≤ 6000000 by omega), rfl⟩ ?_
  refine ⟨am_ki_NTrIL _, s_173 hw (fun q N1 T1 r1 I1 L1 hk => ⟨q, N1, T1, r1, I1, L1, rfl, rfl, hk⟩), ?_⟩
  intro v h9 hv
  obtain ⟨q, N1, T1, r1, I1, L1, rfl, rfl, hw⟩ := hv
  try dsimp only at hw
  refine am_E.run [1265] 200 (show (if (v3 + 1) < 0 ∨ S.1 ≤ Int32.toNatClampNeg (v3 + 1) then False else (am_E S 304 (d + 60) (cs + 12) (ss + 109) 1265 [.retAddr 3, .ref 0, .ref 66, .int v3] [.int (S.2 (Int32.toNatClampNeg (v3 + 1))), .ref 66, .int q] (N1, am_ts T1, I1, L1, am_rs r1) Q)) from ?_)
  refine am_ifn hb1 ?_
  refine am_E.go (show (if (am_cat [.int q] ≤ 8 ∧ (cs + 12) + am_mc 181 ≤ am_mc 304 ∧ (ss + 109) + am_ms 181 ≤ am_ms 304 ∧ (am_en 181 [.ref 66, .int (S.2 (Int32.toNatClampNeg (v3 + 1)))]).length = am_ml 181) then _ else False) from ?_)
  refine am_ifp ⟨(show 1 ≤ 8 by decide), (show (cs + 12) + 0 ≤ 10000 by omega), (show (ss + 109) + 0 ≤ 6000000 by omega), rfl⟩ ?_
  refine ⟨am_ki_I N1 T1 L1 r1 _, s_181 hw (fun q2 I2 hk => ⟨q2, I2, rfl, rfl, hk⟩), ?_⟩
  intro v h9 hv
  obtain ⟨q2, I2, rfl, rfl, hw⟩ := hv
  try dsimp only at hw
  refine am_E.run [1332] 200 (show (if q = q2 then (am_E S 304 (d + 60) (cs + 12) (ss + 109) 1332 [.retAddr 3, .ref 0, .ref 66, .int v3] [] (N1, am_ts T1, I2, L1, am_rs r1) Q) else (((0 : Int32) = 0 ∨ (0 : Int32) = 1) ∧ Q (some (.int 0)) (N1, am_ts T1, I2, L1, am_rs r1))) from ?_)
  refine am_ifp hw.1 ?_
  exact (hn _ _ _ _ _ hw.2).cs (by omega) (by omega)
/-- back: the class, then the reference -/
def op_39 (x1 : Int32) (P : Nat → (Nat → Nat × Nat) → (Nat → Nat → Option Nat) → am_I → am_J → Prop) (N : Nat) (T : Nat → Nat × Nat) (r : Nat → Nat → Option Nat) (I : am_I) (L : am_J) : Prop :=
  w_174 x1 N T r I (fun q N1 T1 r1 I1 => w_183 x1 I1 (fun q2 I2 => q = q2 ∧ P N1 T1 r1 I2 L))
set_option maxRecDepth 100000 in
theorem lc_39 {S : am_S} {d cs ss N : Nat} {T : Nat → Nat × Nat} {I : am_I} {L : am_J} {r : Nat → Nat → Option Nat} {Q : am_Q} {v3 : Int32} {P : Nat → (Nat → Nat × Nat) → (Nat → Nat → Option Nat) → am_I → am_J → Prop} (hb1 : ¬ ((v3 + 1) < 0 ∨ S.1 ≤ Int32.toNatClampNeg (v3 + 1))) (hcs : cs + 12 ≤ 10000) (hss : ss + 11333 ≤ 6000000) (hw : op_39 (S.2 (Int32.toNatClampNeg (v3 + 1))) P N T r I L) (hn : ∀ N T r I L, P N T r I L → am_E S 304 (d + 60) (cs + 12) (ss + 11333) 1332 [.retAddr 3, .ref 0, .ref 66, .int v3] [] (N, am_ts T, I, L, am_rs r) Q) : am_E S 304 (d + 60) cs ss 1273 [.retAddr 3, .ref 0, .ref 66, .int v3] [] (N, am_ts T, I, L, am_rs r) Q := by
  unfold op_39 at hw
  refine am_E.run [1279] 200 (show (if (v3 + 1) < 0 ∨ S.1 ≤ Int32.toNatClampNeg (v3 + 1) then False else (am_E S 304 (d + 60) cs ss 1279 [.retAddr 3, .ref 0, .ref 66, .int v3] [.int (S.2 (Int32.toNatClampNeg (v3 + 1))), .ref 0] (N, am_ts T, I, L, am_rs r) Q)) from ?_)
  refine am_ifn hb1 ?_
  refine am_E.go (show (if (am_cat [] ≤ 8 ∧ cs + am_mc 174 ≤ am_mc 304 ∧ ss + am_ms 174 ≤ am_ms 304 ∧ (am_en 174 [.ref 0, .int (S.2 (Int32.toNatClampNeg (v3 + 1)))]).length = am_ml 174) then _ else False) from ?_)
  refine am_ifp ⟨(show 0 ≤ 8 by decide), (show cs + 0 ≤ 10000 by omega), (show ss + 0 ≤ 6000000 by omega), rfl⟩ ?_
  refine ⟨am_ki_NTrI L _, s_174 hw (fun q N1 T1 r1 I1 hk => ⟨q, N1, T1, r1, I1, rfl, rfl, hk⟩), ?_⟩
  intro v h9 hv
  obtain ⟨q, N1, T1, r1, I1, rfl, rfl, hw⟩ := hv
  try dsimp only at hw
  refine am_E.run [1288] 200 (show (if (v3 + 1) < 0 ∨ S.1 ≤ Int32.toNatClampNeg (v3 + 1) then False else (am_E S 304 (d + 60) cs ss 1288 [.retAddr 3, .ref 0, .ref 66, .int v3] [.int (S.2 (Int32.toNatClampNeg (v3 + 1))), .ref 66, .int q] (N1, am_ts T1, I1, L, am_rs r1) Q)) from ?_)
  refine am_ifn hb1 ?_
  refine am_E.go (show (if (am_cat [.int q] ≤ 8 ∧ cs + am_mc 183 ≤ am_mc 304 ∧ ss + am_ms 183 ≤ am_ms 304 ∧ (am_en 183 [.ref 66, .int (S.2 (Int32.toNatClampNeg (v3 + 1)))]).length = am_ml 183) then _ else False) from ?_)
  refine am_ifp ⟨(show 1 ≤ 8 by decide), (show cs + 0 ≤ 10000 by omega), (show ss + 0 ≤ 6000000 by omega), rfl⟩ ?_
  refine ⟨am_ki_I N1 T1 L r1 _, s_183 hw (fun q2 I2 hk => ⟨q2, I2, rfl, rfl, hk⟩), ?_⟩
  intro v h9 hv
  obtain ⟨q2, I2, rfl, rfl, hw⟩ := hv
  try dsimp only at hw
  refine am_E.run [1332] 200 (show (if q = q2 then (am_E S 304 (d + 60) cs ss 1332 [.retAddr 3, .ref 0, .ref 66, .int v3] [] (N1, am_ts T1, I2, L, am_rs r1) Q) else (((0 : Int32) = 0 ∨ (0 : Int32) = 1) ∧ Q (some (.int 0)) (N1, am_ts T1, I2, L, am_rs r1))) from ?_)
  refine am_ifp hw.1 ?_
  exact (hn _ _ _ _ _ hw.2).cs (by omega) (by omega)
/-- count: the class, then the reference -/
def op_40 (x1 : Int32) (P : Nat → (Nat → Nat × Nat) → (Nat → Nat → Option Nat) → am_I → am_J → Prop) (N : Nat) (T : Nat → Nat × Nat) (r : Nat → Nat → Option Nat) (I : am_I) (L : am_J) : Prop :=
  w_175 x1 T r I (fun q => w_302 x1 I (fun q2 I2 => q = q2 ∧ P N T r I2 L))
set_option maxRecDepth 100000 in
theorem lc_40 {S : am_S} {d cs ss N : Nat} {T : Nat → Nat × Nat} {I : am_I} {L : am_J} {r : Nat → Nat → Option Nat} {Q : am_Q} {v3 : Int32} {P : Nat → (Nat → Nat × Nat) → (Nat → Nat → Option Nat) → am_I → am_J → Prop} (hb1 : ¬ ((v3 + 1) < 0 ∨ S.1 ≤ Int32.toNatClampNeg (v3 + 1))) (hcs : cs + 12 ≤ 10000) (hss : ss + 11333 ≤ 6000000) (hw : op_40 (S.2 (Int32.toNatClampNeg (v3 + 1))) P N T r I L) (hn : ∀ N T r I L, P N T r I L → am_E S 304 (d + 60) (cs + 12) (ss + 11333) 1332 [.retAddr 3, .ref 0, .ref 66, .int v3] [] (N, am_ts T, I, L, am_rs r) Q) : am_E S 304 (d + 60) cs ss 1296 [.retAddr 3, .ref 0, .ref 66, .int v3] [] (N, am_ts T, I, L, am_rs r) Q := by
  unfold op_40 at hw
  refine am_E.run [1302] 200 (show (if (v3 + 1) < 0 ∨ S.1 ≤ Int32.toNatClampNeg (v3 + 1) then False else (am_E S 304 (d + 60) cs ss 1302 [.retAddr 3, .ref 0, .ref 66, .int v3] [.int (S.2 (Int32.toNatClampNeg (v3 + 1))), .ref 0] (N, am_ts T, I, L, am_rs r) Q)) from ?_)
  refine am_ifn hb1 ?_
  refine am_E.go (show (if (am_cat [] ≤ 8 ∧ cs + am_mc 175 ≤ am_mc 304 ∧ ss + am_ms 175 ≤ am_ms 304 ∧ (am_en 175 [.ref 0, .int (S.2 (Int32.toNatClampNeg (v3 + 1)))]).length = am_ml 175) then _ else False) from ?_)
  refine am_ifp ⟨(show 0 ≤ 8 by decide), (show cs + 0 ≤ 10000 by omega), (show ss + 0 ≤ 6000000 by omega), rfl⟩ ?_
  refine ⟨am_ki_ N T I L r _, s_175 hw (fun q hk => ⟨q, rfl, rfl, hk⟩), ?_⟩
  intro v h9 hv
  obtain ⟨q, rfl, rfl, hw⟩ := hv
  try dsimp only at hw
  refine am_E.run [1311] 200 (show (if (v3 + 1) < 0 ∨ S.1 ≤ Int32.toNatClampNeg (v3 + 1) then False else (am_E S 304 (d + 60) cs ss 1311 [.retAddr 3, .ref 0, .ref 66, .int v3] [.int (S.2 (Int32.toNatClampNeg (v3 + 1))), .ref 66, .int q] (N, am_ts T, I, L, am_rs r) Q)) from ?_)
  refine am_ifn hb1 ?_
  refine am_E.go (show (if (am_cat [.int q] ≤ 8 ∧ cs + am_mc 302 ≤ am_mc 304 ∧ ss + am_ms 302 ≤ am_ms 304 ∧ (am_en 302 [.ref 66, .int (S.2 (Int32.toNatClampNeg (v3 + 1)))]).length = am_ml 302) then _ else False) from ?_)
  refine am_ifp ⟨(show 1 ≤ 8 by decide), (show cs + 0 ≤ 10000 by omega), (show ss + 0 ≤ 6000000 by omega), rfl⟩ ?_
  refine ⟨am_ki_I N T L r _, s_302 hw (fun q2 I2 hk => ⟨q2, I2, rfl, rfl, hk⟩), ?_⟩
  intro v h9 hv
  obtain ⟨q2, I2, rfl, rfl, hw⟩ := hv
  try dsimp only at hw
  refine am_E.run [1332] 200 (show (if q = q2 then (am_E S 304 (d + 60) cs ss 1332 [.retAddr 3, .ref 0, .ref 66, .int v3] [] (N, am_ts T, I2, L, am_rs r) Q) else (((0 : Int32) = 0 ∨ (0 : Int32) = 1) ∧ Q (some (.int 0)) (N, am_ts T, I2, L, am_rs r))) from ?_)
  refine am_ifp hw.1 ?_
  exact (hn _ _ _ _ _ hw.2).cs (by omega) (by omega)
/-- status: the class, then the reference -/
def op_41 (P : Nat → (Nat → Nat × Nat) → (Nat → Nat → Option Nat) → am_I → am_J → Prop) (N : Nat) (T : Nat → Nat × Nat) (r : Nat → Nat → Option Nat) (I : am_I) (L : am_J) : Prop :=
  w_303 I (fun q2 I2 => (f_176 I) = q2 ∧ P N T r I2 L)
set_option maxRecDepth 100000 in
theorem lc_41 {S : am_S} {d cs ss N : Nat} {T : Nat → Nat × Nat} {I : am_I} {L : am_J} {r : Nat → Nat → Option Nat} {Q : am_Q} {v3 : Int32} {P : Nat → (Nat → Nat × Nat) → (Nat → Nat → Option Nat) → am_I → am_J → Prop} (hcs : cs + 12 ≤ 10000) (hss : ss + 11333 ≤ 6000000) (hw : op_41 P N T r I L) (hn : ∀ N T r I L, P N T r I L → am_E S 304 (d + 60) (cs + 12) (ss + 11333) 1332 [.retAddr 3, .ref 0, .ref 66, .int v3] [] (N, am_ts T, I, L, am_rs r) Q) : am_E S 304 (d + 60) cs ss 1319 [.retAddr 3, .ref 0, .ref 66, .int v3] [] (N, am_ts T, I, L, am_rs r) Q := by
  unfold op_41 at hw
  refine am_E.run [1320] 200 (show (am_E S 304 (d + 60) cs ss 1320 [.retAddr 3, .ref 0, .ref 66, .int v3] [.ref 0] (N, am_ts T, I, L, am_rs r) Q) from ?_)
  refine am_E.go (show (if (am_cat [] ≤ 8 ∧ cs + am_mc 176 ≤ am_mc 304 ∧ ss + am_ms 176 ≤ am_ms 304 ∧ (am_en 176 [.ref 0]).length = am_ml 176) then _ else False) from ?_)
  refine am_ifp ⟨(show 0 ≤ 8 by decide), (show cs + 0 ≤ 10000 by omega), (show ss + 0 ≤ 6000000 by omega), rfl⟩ ?_
  refine ⟨fun v h9 => v = some (.int (f_176 I)) ∧ h9 = (N, am_ts T, I, L, am_rs r), s_176 ⟨rfl, rfl⟩, ?_⟩
  intro v h9 hv
  obtain ⟨rfl, rfl⟩ := hv
  refine am_E.run [1324] 200 (show (am_E S 304 (d + 60) cs ss 1324 [.retAddr 3, .ref 0, .ref 66, .int v3] [.ref 66, .int (f_176 I)] (N, am_ts T, I, L, am_rs r) Q) from ?_)
  refine am_E.go (show (if (am_cat [.int (f_176 I)] ≤ 8 ∧ cs + am_mc 303 ≤ am_mc 304 ∧ ss + am_ms 303 ≤ am_ms 304 ∧ (am_en 303 [.ref 66]).length = am_ml 303) then _ else False) from ?_)
  refine am_ifp ⟨(show 1 ≤ 8 by decide), (show cs + 0 ≤ 10000 by omega), (show ss + 0 ≤ 6000000 by omega), rfl⟩ ?_
  refine ⟨am_ki_I N T L r _, s_303 hw (fun q2 I2 hk => ⟨q2, I2, rfl, rfl, hk⟩), ?_⟩
  intro v h9 hv
  obtain ⟨q2, I2, rfl, rfl, hw⟩ := hv
  try dsimp only at hw
  refine am_E.run [1332] 200 (show (if (f_176 I) = q2 then (am_E S 304 (d + 60) cs ss 1332 [.retAddr 3, .ref 0, .ref 66, .int v3] [] (N, am_ts T, I2, L, am_rs r) Q) else (((0 : Int32) = 0 ∨ (0 : Int32) = 1) ∧ Q (some (.int 0)) (N, am_ts T, I2, L, am_rs r))) from ?_)
  refine am_ifp hw.1 ?_
  exact (hn _ _ _ _ _ hw.2).cs (by omega) (by omega)
