/-! orders: the words -/
def FDk (fd : Int32) : Prop := fd = -1 ∨ ∃ n, n ≤ 8 ∧ fd = nI n
theorem FDk_b {fd : Int32} (h : FDk fd) : -1000000000 ≤ fd.toInt ∧ fd.toInt ≤ 1000000000 := by
  rcases h with e | ⟨n, hn, e⟩
  · rw [e]; decide
  · rw [e, nI_toInt (by omega)]; omega
def wdE (V : am_I) (m dn : Nat) (fd : Int32) : Nat → Nat → Int := fun o w => if o = 1 then (if w = 7 then (V 12 0).toInt else if w = 10 then (V 1 18).toInt else if w = 11 then (nI (fb_ct (fun p => decide (¬ V 6 p = 0)) m)).toInt else if w = 12 then (nI dn).toInt else fd.toInt) else if o = 2 then (if m ≤ w then -1 else (V 6 w).toInt) else (if m ≤ w / 12 then -1 else (bi (Int32.toNatClampNeg (V 7 (w / 12))) (w % 12) : Int))
theorem wdE_2 {V : am_I} {m dn : Nat} {fd : Int32} {w : Nat} : wdE V m dn fd 2 w = if m ≤ w then -1 else (V 6 w).toInt := rfl
theorem wdE_3 {V : am_I} {m dn : Nat} {fd : Int32} {w : Nat} : wdE V m dn fd 3 w = if m ≤ w / 12 then -1 else (bi (Int32.toNatClampNeg (V 7 (w / 12))) (w % 12) : Int) := rfl
theorem wdE_b {V : am_I} {m dn : Nat} {fd : Int32} (h : IV V) (hm : m ≤ 8) (hd : dn ≤ 240) (hf : FDk fd) (w : Nat) : -1000000000 ≤ wdE V m dn fd 1 w ∧ wdE V m dn fd 1 w ≤ 1000000000 := by
  obtain ⟨L, h⟩ := h
  obtain ⟨a, b, c, d, e, ha, hb1, hb2, hc, hd', he, q1, q2, q3, q4, q5, s1, s2, s3, s4, s5⟩ := id h.1.2.2.2.2.1
  have n8 := Nat.le_trans (fb_ct_le (fun p => decide (¬ V 6 p = 0)) m) hm
  show -1000000000 ≤ (if w = 7 then (V 12 0).toInt else if w = 10 then (V 1 18).toInt else if w = 11 then (nI (fb_ct (fun p => decide (¬ V 6 p = 0)) m)).toInt else if w = 12 then (nI dn).toInt else fd.toInt) ∧ (if w = 7 then (V 12 0).toInt else if w = 10 then (V 1 18).toInt else if w = 11 then (nI (fb_ct (fun p => decide (¬ V 6 p = 0)) m)).toInt else if w = 12 then (nI dn).toInt else fd.toInt) ≤ 1000000000
  rw [q1, q5, nI_toInt (by omega), nI_toInt (by omega), nI_toInt (by omega), nI_toInt (by omega)]
  have b := FDk_b hf
  split
  · omega
  · split
    · omega
    · split
      · omega
      · split
        · omega
        · exact b
theorem q85 {V I : am_I} {T : Nat → Nat × Nat} {r : Nat → Nat → Option Nat} {u m dn : Nat} {fd : Int32} {K : am_I → Prop} (h : IV V) (em : V 1 10 = nI m) (hm : m ≤ 8) (cn : CNv I V u) (hd : dn ≤ 240) (hf : FDk fd) (e0 : I 35 0 = nI dn) (e2 : I 35 2 = fd) (hK : ∀ J, (∀ c, c ≠ 25 → J c = I c) → WDc (wdE V m dn fd) m J → K J) : w_85 T r I K := by
  have bb := wdE_b (V := V) (m := m) h hm hd hf
  obtain ⟨L, h⟩ := h
  obtain ⟨m', v, hm', hv, e1, e2', e3, hp⟩ := id h.1.2.1
  have mm : m' = m := (nb_inj (by omega) (by omega)).mp (e1.symm.trans em)
  rw [mm] at hp
  have i1 := cn.1 1 (by decide) (by decide)
  have i6 := cn.1 6 (by decide) (by decide)
  have i7 := cn.1 7 (by decide) (by decide)
  have i12 := cn.1 12 (by decide) (by decide)
  unfold w_85
  refine q86 (m := m) hm ?_ rfl (by show 8 ≤ 8; decide) ?_
  · rw [uu_c (by decide), uu_c (by decide), i1]; exact em
  rw [uu_h (show (6 : Nat) ≠ 25 by decide), uu_h (show (6 : Nat) ≠ 25 by decide)]
  refine hK _ (fun c hc => ?_) ⟨fun w hw => ?_, fun p hp8 => ?_, fun w hw => ?_⟩
  · rw [uu_h hc, uu_h hc, uu_h hc, uu_h hc, uu_h hc]
  · refine ⟨(bb w).1, (bb w).2, ?_⟩
    rcases (by omega : w = 7 ∨ w = 10 ∨ w = 11 ∨ w = 12 ∨ w = 13) with z | z | z | z | z
    · rw [z, uu_n (by decide), uu_n (by decide), uu_n (by decide), uu_n (by decide), uu_e, i12]
      exact (fb_asI _).symm
    · rw [z, uu_n (by decide), uu_n (by decide), uu_n (by decide), uu_e, i1]
      exact (fb_asI _).symm
    · rw [z, uu_n (by decide), uu_n (by decide), uu_e, i6]
      exact (fb_asI _).symm
    · rw [z, uu_n (by decide), uu_e, e0]
      exact (fb_asI _).symm
    · rw [z, uu_e, e2]
      exact (fb_asI _).symm
  · rw [wdE_2, uu_h (show (6 : Nat) ≠ 25 by decide), uu_h (show (6 : Nat) ≠ 25 by decide), uu_h (show (6 : Nat) ≠ 25 by decide), uu_h (show (6 : Nat) ≠ 25 by decide), uu_h (show (6 : Nat) ≠ 25 by decide), i6]
    refine ⟨rfl, fun pm => ?_⟩
    obtain ⟨_, y, w, a, k, t, _, _, _, ha, _, _, _, _, q3, _⟩ := hp p pm
    exact ⟨a, ha, q3⟩
  · rw [wdE_3, uu_h (show (7 : Nat) ≠ 25 by decide), uu_h (show (7 : Nat) ≠ 25 by decide), uu_h (show (7 : Nat) ≠ 25 by decide), uu_h (show (7 : Nat) ≠ 25 by decide), uu_h (show (7 : Nat) ≠ 25 by decide), i7]
    refine ⟨rfl, fun pm => ?_⟩
    obtain ⟨_, y, w', a, k, t, _, _, _, ha, hk, _, _, _, q3, q4, _⟩ := hp _ pm
    exact ⟨k, hk, q4⟩
/-- the same by the reference: its numbers in L 85 -/
theorem wdR {V G : am_I} {H : am_J} {u m dn : Nat} {fd q1 q2 : Int32} (h : IV V) (em : V 1 10 = nI m) (hm : m ≤ 8) (rn : RNv G V u) (hd : dn ≤ 240) (hf : FDk fd) (e54 : G 66 54 = nI dn) (e55 : G 66 55 = fd) (e1 : q1 = G 68 5) (e2 : q2 = nI (fb_ct (fun p => decide (¬ G 68 (10 + p) = 0)) m)) : WDr (wdE V m dn fd) m (am_u G 66 57 0) (am_u (am_u (am_u (am_u (am_u H 85 1 (Int32.toInt64 q1)) 85 2 (Int32.toInt64 (G 68 9))) 85 3 (Int32.toInt64 q2)) 85 4 (Int32.toInt64 (G 66 54))) 85 5 (Int32.toInt64 (G 66 55))) := by
  have bb := wdE_b (V := V) (m := m) h hm hd hf
  obtain ⟨L, h⟩ := h
  obtain ⟨m', v, hm', hv, e1', e2', e3, hp⟩ := id h.1.2.1
  have mm : m' = m := (nb_inj (by omega) (by omega)).mp (e1'.symm.trans em)
  rw [mm] at hp
  obtain ⟨a, b, c, d, e, ha, hb1, hb2, hc, hd', he, s1, s2, s3, s4, s5, t1, t2, t3, t4, t5⟩ := id h.1.2.2.2.2.1
  have hpl : ∀ q, q < m → V 6 q = V 68 (10 + q) := by
    intro q hq
    obtain ⟨_, y, w, a, k, t, _, _, _, _, _, _, _, _, q3, _, _, _, _, s3, _, _⟩ := hp q hq
    exact q3.trans s3.symm
  have hkl : ∀ q, q < m → V 7 q = V 68 (18 + q) := by
    intro q hq
    obtain ⟨_, y, w, a, k, t, _, _, _, _, _, _, _, _, _, q4, _, _, _, _, s4, _⟩ := hp q hq
    exact q4.trans s4.symm
  have ct : fb_ct (fun p => decide (¬ G 68 (10 + p) = 0)) m = fb_ct (fun p => decide (¬ V 6 p = 0)) m := by
    rw [rn.1]
    exact fb_ct_cong (fun p hp => by rw [hpl p hp])
  have g68 : am_u G 66 57 0 68 = V 68 := by rw [uu_h (by decide)]; exact rn.1
  refine ⟨fun w hw => ⟨(bb w).1, (bb w).2, ?_⟩, fun p hp8 => ?_, fun w hw => ?_⟩
  · rcases (by omega : w = 7 ∨ w = 10 ∨ w = 11 ∨ w = 12 ∨ w = 13) with z | z | z | z | z
    · rw [z, show rpo true 1 7 = 1 from rfl, uu_n (by decide), uu_n (by decide), uu_n (by decide), uu_n (by decide), uu_e, Int32.toInt_toInt64, e1, rn.1, t1, ← s1]
      rfl
    · rw [z, show rpo true 1 10 = 2 from rfl, uu_n (by decide), uu_n (by decide), uu_n (by decide), uu_e, Int32.toInt_toInt64, rn.1, t5, ← s5]
      rfl
    · rw [z, show rpo true 1 11 = 3 from rfl, uu_n (by decide), uu_n (by decide), uu_e, Int32.toInt_toInt64, e2, ct]
      rfl
    · rw [z, show rpo true 1 12 = 4 from rfl, uu_n (by decide), uu_e, Int32.toInt_toInt64, e54]
      rfl
    · rw [z, show rpo true 1 13 = 5 from rfl, uu_e, Int32.toInt_toInt64, e55]
      rfl
  · rw [wdE_2, g68]
    by_cases pm : m ≤ p
    · rw [if_pos pm, if_pos pm]
      exact ⟨rfl, fun z => by omega⟩
    · rw [if_neg pm, if_neg pm, hpl p (by omega)]
      refine ⟨rfl, fun pm => ?_⟩
      obtain ⟨_, y, w, a, k, t, _, _, _, ha, _, _, _, _, q3, _⟩ := hp p pm
      exact ⟨a, ha, (hpl p pm).symm.trans q3⟩
  · rw [wdE_3, g68]
    by_cases pm : m ≤ w / 12
    · rw [if_pos pm, if_pos pm]
      exact ⟨rfl, fun z => by omega⟩
    · rw [if_neg pm, if_neg pm, hkl (w / 12) (by omega)]
      refine ⟨rfl, fun pm => ?_⟩
      obtain ⟨_, y, w', a, k, t, _, _, _, ha, hk, _, _, _, q3, q4, _⟩ := hp _ pm
      exact ⟨k, hk, (hkl _ pm).symm.trans q4⟩
