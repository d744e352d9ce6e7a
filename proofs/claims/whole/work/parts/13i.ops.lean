/-! feed -/
theorem q33s {x : Int32} {n s y : Nat} {J : am_I} {E : Int32 → am_I → Prop} (hs : s ≤ 24) (hy : y < 400) (e : J 14 1 = nI y) (h : lw_33_3 n x (nI s + (-8)) (am_u (am_u J 15 y ((x >>> (nI s &&& 31)) &&& 255)) 14 1 (nI (y + 1))) E) : lw_33_3 (n + 1) x (nI s) J E := by
  unfold lw_33_3
  rw [if_neg (nI_pos (by omega)), e]
  refine am_ifn (show ¬ (400 : Int32) ≤ nI y from nI_ge (b := 400) hy (by decide)) ?_
  refine ⟨nb_gd hy (by decide), ?_⟩
  rw [nI_clamp (by omega : y < 2 ^ 31), by4_u x s hs, show nI y + 1 = nI (y + 1) from nb_add y 1]
  exact h
theorem q33 {x : Int32} {I : am_I} {K : am_I → Prop} {z : Nat} (hz : z + 4 ≤ 400) (e : I 14 1 = nI z) (hK : ∀ J, fed I J 14 1 15 z x → K J) : w_33 x I K := by
  unfold w_33
  refine ⟨5, ?_⟩
  refine q33s (s := 24) (y := z) (by decide) (by omega) e ?_
  rw [show nI 24 + (-8) = nI 16 from rfl]
  refine q33s (s := 16) (y := z + 1) (by decide) (by omega) uu_e ?_
  rw [show nI 16 + (-8) = nI 8 from rfl]
  refine q33s (s := 8) (y := z + 2) (by decide) (by omega) uu_e ?_
  rw [show nI 8 + (-8) = nI 0 from rfl]
  refine q33s (s := 0) (y := z + 3) (by decide) (by omega) uu_e ?_
  unfold lw_33_3
  rw [if_pos (by decide)]
  exact hK _ (fed_of (I := I) (ct := 14) (kt := 1) (cb := 15) (z := z) (x := x) (by decide))
theorem q201s {x : Int32} {n s y : Nat} {J : am_I} {E : Int32 → am_I → Prop} (hs : s ≤ 24) (hy : y < 400) (e : J 66 13 = nI y) (h : lw_201_3 n x (nI s + (-8)) (am_u (am_u J 75 y ((x >>> (nI s &&& 31)) &&& 255)) 66 13 (nI (y + 1))) E) : lw_201_3 (n + 1) x (nI s) J E := by
  unfold lw_201_3
  rw [if_neg (nI_pos (by omega)), e]
  refine ⟨nb_gd hy (by decide), ?_⟩
  rw [nI_clamp (by omega : y < 2 ^ 31), show nI y + 1 = nI (y + 1) from nb_add y 1]
  exact h
theorem q201 {x : Int32} {I : am_I} {K : am_I → Prop} {z : Nat} (hz : z + 4 ≤ 400) (e : I 66 13 = nI z) (hK : ∀ J, fed I J 66 13 75 z x → K J) : w_201 x I K := by
  unfold w_201
  refine ⟨5, ?_⟩
  refine q201s (s := 24) (y := z) (by decide) (by omega) e ?_
  rw [show nI 24 + (-8) = nI 16 from rfl]
  refine q201s (s := 16) (y := z + 1) (by decide) (by omega) uu_e ?_
  rw [show nI 16 + (-8) = nI 8 from rfl]
  refine q201s (s := 8) (y := z + 2) (by decide) (by omega) uu_e ?_
  rw [show nI 8 + (-8) = nI 0 from rfl]
  refine q201s (s := 0) (y := z + 3) (by decide) (by omega) uu_e ?_
  unfold lw_201_3
  rw [if_pos (by decide)]
  exact hK _ (fed_of (I := I) (ct := 66) (kt := 13) (cb := 75) (z := z) (x := x) (by decide))
/-- twenty bytes -/
def tw (x1 x2 x3 x4 x5 : Int32) (j : Nat) : Int32 := if j < 4 then by4 x1 j else if j < 8 then by4 x2 (j - 4) else if j < 12 then by4 x3 (j - 8) else if j < 16 then by4 x4 (j - 12) else by4 x5 (j - 16)
theorem tw_lt (x1 x2 x3 x4 x5 : Int32) (j : Nat) : ∃ b, b < 256 ∧ tw x1 x2 x3 x4 x5 j = nI b := by
  unfold tw
  split
  · exact by4_lt _ _
  · split
    · exact by4_lt _ _
    · split
      · exact by4_lt _ _
      · split
        · exact by4_lt _ _
        · exact by4_lt _ _
theorem fed5 {I J1 J2 J3 J4 J5 : am_I} {ct kt cb z : Nat} {x1 x2 x3 x4 x5 : Int32} (f1 : fed I J1 ct kt cb z x1) (f2 : fed J1 J2 ct kt cb (z + 4) x2) (f3 : fed J2 J3 ct kt cb (z + 8) x3) (f4 : fed J3 J4 ct kt cb (z + 12) x4) (f5 : fed J4 J5 ct kt cb (z + 16) x5) : (∀ c, c ≠ ct → c ≠ cb → J5 c = I c) ∧ (∀ i, i ≠ kt → J5 ct i = I ct i) ∧ J5 ct kt = nI (z + 20) ∧ (∀ k, k < z → J5 cb k = I cb k) ∧ ∀ j, j < 20 → J5 cb (z + j) = tw x1 x2 x3 x4 x5 j := by
  obtain ⟨a1, b1, c1, d1, e1⟩ := f1
  obtain ⟨a2, b2, c2, d2, e2⟩ := f2
  obtain ⟨a3, b3, c3, d3, e3⟩ := f3
  obtain ⟨a4, b4, c4, d4, e4⟩ := f4
  obtain ⟨a5, b5, c5, d5, e5⟩ := f5
  refine ⟨fun c h1 h2 => ?_, fun i hi => ?_, c5, fun k hk => ?_, fun j hj => ?_⟩
  · rw [a5 c h1 h2, a4 c h1 h2, a3 c h1 h2, a2 c h1 h2, a1 c h1 h2]
  · rw [b5 i hi, b4 i hi, b3 i hi, b2 i hi, b1 i hi]
  · rw [d5 k (by omega), d4 k (by omega), d3 k (by omega), d2 k (by omega), d1 k (by omega)]
  · unfold tw
    by_cases h1 : j < 4
    · rw [if_pos h1, d5 _ (by omega), d4 _ (by omega), d3 _ (by omega), d2 _ (by omega)]
      exact e1 j h1
    rw [if_neg h1]
    by_cases h2 : j < 8
    · rw [if_pos h2, d5 _ (by omega), d4 _ (by omega), d3 _ (by omega), show z + j = z + 4 + (j - 4) by omega]
      exact e2 _ (by omega)
    rw [if_neg h2]
    by_cases h3 : j < 12
    · rw [if_pos h3, d5 _ (by omega), d4 _ (by omega), show z + j = z + 8 + (j - 8) by omega]
      exact e3 _ (by omega)
    rw [if_neg h3]
    by_cases h4 : j < 16
    · rw [if_pos h4, d5 _ (by omega), show z + j = z + 12 + (j - 12) by omega]
      exact e4 _ (by omega)
    rw [if_neg h4, show z + j = z + 16 + (j - 16) by omega]
    exact e5 _ (by omega)
theorem o_8 {D : am_P} (hD : FrD D) {N : Nat} {T : Nat → Nat × Nat} {r : Nat → Nat → Option Nat} {I : am_I} {L : am_J} (h : Inv D N T r I L) (x1 x2 x3 x4 x5 : Int32) : op_8 x1 x2 x3 x4 x5 (Inv D) N T r I L := by
  unfold op_8 w_32
  obtain ⟨z, hz, e1, e2, hp⟩ := h.1.2.2.2.2.2.1
  have q : nI z + 20 = nI (z + 20) := nb_add z 20
  rw [e1, q]
  by_cases c : z + 20 ≤ 400
  · have c' : nI (z + 20) ≤ 400 := (nb_le (b := 400) (by omega) (by decide)).mpr c
    rw [if_pos c']
    refine q33 (z := z) (by omega) e1 (fun J1 f1 => ?_)
    refine q33 (z := z + 4) (by omega) f1.2.2.1 (fun J2 f2 => ?_)
    refine q33 (z := z + 8) (by omega) f2.2.2.1 (fun J3 f3 => ?_)
    refine q33 (z := z + 12) (by omega) f3.2.2.1 (fun J4 f4 => ?_)
    refine q33 (z := z + 16) (by omega) f4.2.2.1 (fun J5 f5 => ?_)
    obtain ⟨a, b, cc, d, e⟩ := fed5 f1 f2 f3 f4 f5
    show w_200 _ _ _ _ _ _ _
    unfold w_200
    have e66 : J5 66 = I 66 := a 66 (by decide) (by decide)
    rw [e66, e2, q, if_pos c']
    refine q201 (I := am_u J5 66 0 0) (z := z) (by omega) (show J5 66 13 = nI z by rw [e66]; exact e2) (fun M1 g1 => ?_)
    refine q201 (z := z + 4) (by omega) g1.2.2.1 (fun M2 g2 => ?_)
    refine q201 (z := z + 8) (by omega) g2.2.2.1 (fun M3 g3 => ?_)
    refine q201 (z := z + 12) (by omega) g3.2.2.1 (fun M4 g4 => ?_)
    refine q201 (z := z + 16) (by omega) g4.2.2.1 (fun M5 g5 => ?_)
    obtain ⟨a', b', cc', d', e'⟩ := fed5 g1 g2 g3 g4 g5
    have M : ∀ c, c ≠ 14 → c ≠ 15 → c ≠ 66 → c ≠ 75 → M5 c = I c := fun c h1 h2 h3 h4 => by rw [a' c h3 h4, uu_h h3, a c h1 h2]
    have M14 : M5 14 = J5 14 := by rw [a' 14 (by decide) (by decide), uu_h (by decide)]
    have M15 : M5 15 = J5 15 := by rw [a' 15 (by decide) (by decide), uu_h (by decide)]
    have J75 : J5 75 = I 75 := a 75 (by decide) (by decide)
    have M66 : ∀ i, i ≠ 13 → i ≠ 0 → M5 66 i = I 66 i := fun i h1 h2 => by rw [b' i h1, uu_n h2, e66]
    refine ⟨by rw [cc, cc'], ?_⟩
    obtain ⟨⟨h1, h2, h3, h4, h5, h6, h7, h8, h9, f1', f2', f3', f4', f5'⟩, hdd⟩ := h
    have k : ∀ c : Nat, (c ≠ 14 ∧ c ≠ 15 ∧ c ≠ 66 ∧ c ≠ 75) → M5 c = I c := fun c hc => M c hc.1 hc.2.1 hc.2.2.1 hc.2.2.2
    refine ⟨⟨?_, ?_, ?_, ?_, ?_, ⟨z + 20, c, by rw [M14]; exact cc, cc', fun j hj => ?_⟩, ?_, ?_, ?_, ?_⟩, hD _ _ _ I _ _ ⟨fun c hc => k c (by omega), by rw [k 1 (by decide)], fun i _ => by rw [k 68 (by decide)], k 69 (by decide), k 70 (by decide), Or.inr ⟨by rw [k 0 (by decide)], by rw [k 1 (by decide)], by rw [k 1 (by decide)], k 4 (by decide), k 5 (by decide), k 7 (by decide), k 12 (by decide)⟩⟩ hdd⟩
    · rw [k 1 (by decide), k 2 (by decide), k 3 (by decide), k 68 (by decide)]
      exact h1
    · rw [k 1 (by decide), k 4 (by decide), k 5 (by decide), k 6 (by decide), k 7 (by decide), k 8 (by decide), k 68 (by decide)]
      exact h2
    · rw [k 1 (by decide), k 9 (by decide), k 10 (by decide), k 68 (by decide)]
      exact h3
    · rw [k 1 (by decide), k 68 (by decide)]
      exact h4
    · rw [k 1 (by decide), k 12 (by decide), k 68 (by decide)]
      exact h5
    · by_cases hjz : j < z
      · obtain ⟨bb, hb, p1, p2⟩ := hp j hjz
        exact ⟨bb, hb, by rw [M15, d j hjz]; exact p1, by rw [d' j hjz, uu_h (by decide), J75]; exact p2⟩
      · obtain ⟨bb, hb, p1⟩ := tw_lt x1 x2 x3 x4 x5 (j - z)
        have ej : j = z + (j - z) := by omega
        refine ⟨bb, hb, ?_, ?_⟩
        · rw [M15, ej, e _ (by omega)]
          exact p1
        · rw [ej, e' _ (by omega)]
          exact p1
    · rw [k 29 (by decide), M66 8 (by decide) (by decide), k 30 (by decide), k 31 (by decide), k 32 (by decide), k 33 (by decide), k 34 (by decide), k 71 (by decide), k 72 (by decide), k 68 (by decide)]
      exact h7
    · rw [k 63 (by decide), M66 60 (by decide) (by decide), M66 61 (by decide) (by decide), k 64 (by decide), k 98 (by decide)]
      exact h8
    · obtain ⟨m1, m2, m3, m4, m5, m6, m7⟩ := h9
      rw [k 0 (by decide), k 65 (by decide), k 67 (by decide)]
      exact ⟨by rw [M66 1 (by decide) (by decide)]; exact m1, m2, m3, m4, m5, m6, by rw [M66 11 (by decide) (by decide)]; exact m7⟩
    · rw [M14, k 35 (by decide), k 92 (by decide)]
      exact ⟨by rw [b 2 (by decide), M66 18 (by decide) (by decide)]; exact f1', by rw [M66 56 (by decide) (by decide)]; exact f2', by rw [M66 20 (by decide) (by decide)]; exact f3', f4', f5'⟩
  · have c' : ¬ nI (z + 20) ≤ 400 := fun q => c ((nb_le (b := 400) (by omega) (by decide)).mp q)
    rw [if_neg c']
    show w_200 _ _ _ _ _ _ _
    unfold w_200
    rw [e2, q, if_neg c']
    exact ⟨rfl, inv_0 hD h⟩
