/-! CALLS, one by one: door, wall, vote, of, status, rats, fault, stopped, end -/
theorem o_11 {D : am_P} (hD : FrD D) {N : Nat} {T : Nat → Nat × Nat} {r : Nat → Nat → Option Nat} {I : am_I} {L : am_J} (h : Inv D N T r I L) : op_11 (Inv D) N T r I L := by
  unfold op_11 w_199 f_37
  exact ⟨h.1.2.2.2.2.2.2.2.2.1.2.2.2.2.2.2, inv_0 hD h⟩
theorem o_41 {D : am_P} (hD : FrD D) {N : Nat} {T : Nat → Nat × Nat} {r : Nat → Nat → Option Nat} {I : am_I} {L : am_J} (h : Inv D N T r I L) : op_41 (Inv D) N T r I L := by
  unfold op_41 w_303 f_176
  exact ⟨h.1.2.2.2.2.2.2.2.2.1.1, inv_0 hD h⟩
theorem o_14 {D : am_P} (hD : FrD D) {N : Nat} {T : Nat → Nat × Nat} {r : Nat → Nat → Option Nat} {I : am_I} {L : am_J} (h : Inv D N T r I L) : op_14 (Inv D) N T r I L := by
  unfold op_14 w_203 f_103
  exact ⟨h.1.2.2.2.2.2.2.2.2.2.1, inv_0 hD h⟩
theorem o_15 {D : am_P} (hD : FrD D) {N : Nat} {T : Nat → Nat × Nat} {r : Nat → Nat → Option Nat} {I : am_I} {L : am_J} (h : Inv D N T r I L) : op_15 (Inv D) N T r I L := by
  unfold op_15 w_298 f_104
  exact ⟨h.1.2.2.2.2.2.2.2.2.2.2.1, inv_0 hD h⟩
/-- of(prisoner, what) -/
theorem qm {I : am_I} {m : Nat} (hm : m ≤ 8) (e : I 1 10 = nI m) (e2 : I 68 1 = nI m) (x : Int32) : (f_27 x I = 0 ∧ f_192 x I = 0 ∧ ∀ n, n < m → ¬ x = nI n) ∨ (f_27 x I = 1 ∧ f_192 x I = 1 ∧ ∃ n, n < m ∧ x = nI n) := by
  unfold f_27 f_192
  rw [e, e2]
  exact qlt x m (by omega)
theorem qd {I : am_I} {m : Nat} (hm : m ≤ 12) (e : I 1 2 = nI m) (e2 : I 68 0 = nI m) (x : Int32) : (f_19 x I = 0 ∧ f_187 x I = 0 ∧ ∀ n, n < m → ¬ x = nI n) ∨ (f_19 x I = 1 ∧ f_187 x I = 1 ∧ ∃ n, n < m ∧ x = nI n) := by
  unfold f_19 f_187
  rw [e, e2]
  exact qlt x m (by omega)
theorem ixa {a n : Nat} (h : a + n < 5510) : ¬ ((nI a + nI n) < 0 ∨ 5510 ≤ Int32.toNatClampNeg (nI a + nI n)) ∧ Int32.toNatClampNeg (nI a + nI n) = a + n := by
  rw [nb_add]
  exact ⟨nb_gd h (by decide), nI_clamp (by omega)⟩
theorem o_3 {D : am_P} (hD : FrD D) {N : Nat} {T : Nat → Nat × Nat} {r : Nat → Nat → Option Nat} {I : am_I} {L : am_J} (h : Inv D N T r I L) (x1 x2 : Int32) : op_3 x1 x2 (Inv D) N T r I L := by
  unfold op_3 w_26
  have h' := inv_0 hD h
  obtain ⟨m, v, hm, hv, e1, e2, e3, hp⟩ := h.1.2.1
  rcases qm hm e1 e2 x1 with ⟨a1, a2, _⟩ | ⟨a1, a2, n, hn, rfl⟩
  · rw [if_pos a1]
    show w_191 _ _ _ _
    unfold w_191
    exact am_ifp a2 ⟨rfl, h'⟩
  rw [if_neg (by rw [a1]; decide)]
  have b2 : ¬ f_192 (nI n) I = 0 := by rw [a2]; decide
  obtain ⟨hv2, y, w, a, k, t, _, _, _, _, _, _, q1, q2, q3, q4, q5, s1, s2, s3, s4, s5⟩ := hp n hn
  have g8 : ¬ (nI n < 0 ∨ 8 ≤ Int32.toNatClampNeg (nI n)) := nb_gd (by omega) (by decide)
  have c8 : Int32.toNatClampNeg (nI n) = n := nI_clamp (by omega)
  rw [c8]
  rw [c8] at g8
  by_cases d0 : x2 = 0
  · rw [if_pos d0]
    obtain ⟨g, c⟩ := ixa (a := 26) (n := n) (by omega)
    refine ⟨g8, ?_⟩
    show w_191 _ _ _ _
    unfold w_191
    refine am_ifn b2 (am_ifp d0 ⟨g, ?_, h'⟩)
    rw [show Int32.toNatClampNeg (26 + nI n) = 26 + n from c, q1, s1]
  rw [if_neg d0]
  by_cases d1 : x2 = 1
  · rw [if_pos d1]
    obtain ⟨g, c⟩ := ixa (a := 34) (n := n) (by omega)
    refine ⟨g8, ?_⟩
    show w_191 _ _ _ _
    unfold w_191
    refine am_ifn b2 (am_ifn d0 (am_ifp d1 ⟨g, ?_, h'⟩))
    rw [show Int32.toNatClampNeg (34 + nI n) = 34 + n from c, q2, s2]
  rw [if_neg d1]
  by_cases d2 : x2 = 2
  · rw [if_pos d2]
    obtain ⟨g, c⟩ := ixa (a := 10) (n := n) (by omega)
    refine ⟨g8, ?_⟩
    show w_191 _ _ _ _
    unfold w_191
    refine am_ifn b2 (am_ifn d0 (am_ifn d1 (am_ifp d2 ⟨g, ?_, h'⟩)))
    rw [show Int32.toNatClampNeg (10 + nI n) = 10 + n from c, q3, s3]
  rw [if_neg d2]
  by_cases d3 : x2 = 3
  · rw [if_pos d3]
    obtain ⟨g, c⟩ := ixa (a := 18) (n := n) (by omega)
    refine ⟨g8, ?_⟩
    show w_191 _ _ _ _
    unfold w_191
    refine am_ifn b2 (am_ifn d0 (am_ifn d1 (am_ifn d2 (am_ifp d3 ⟨g, ?_, h'⟩))))
    rw [show Int32.toNatClampNeg (18 + nI n) = 18 + n from c, q4, s4]
  rw [if_neg d3]
  by_cases d4 : x2 = 4
  · rw [if_pos d4]
    obtain ⟨g, c⟩ := ixa (a := 42) (n := n) (by omega)
    refine ⟨g8, ?_⟩
    show w_191 _ _ _ _
    unfold w_191
    refine am_ifn b2 (am_ifn d0 (am_ifn d1 (am_ifn d2 (am_ifn d3 (am_ifp d4 ⟨g, ?_, h'⟩)))))
    rw [show Int32.toNatClampNeg (42 + nI n) = 42 + n from c, q5, s5]
  rw [if_neg d4]
  by_cases d5 : x2 = 5
  · rw [if_pos d5]
    obtain ⟨g, c⟩ := ixa (a := 50) (n := n) (by omega)
    show w_191 _ _ _ _
    unfold w_191
    refine am_ifn b2 (am_ifn d0 (am_ifn d1 (am_ifn d2 (am_ifn d3 (am_ifn d4 (am_ifp d5 ⟨g, ?_, h'⟩))))))
    rw [show Int32.toNatClampNeg (50 + nI n) = 50 + n from c, hv2, e3, q20 (by omega) (by omega)]
  rw [if_neg d5]
  show w_191 _ _ _ _
  unfold w_191
  exact am_ifn b2 (am_ifn d0 (am_ifn d1 (am_ifn d2 (am_ifn d3 (am_ifn d4 (am_ifn d5 ⟨rfl, h'⟩))))))
