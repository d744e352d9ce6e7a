/-! undo -/
theorem inv_undo {D : am_P} (hD : FrD D) {N : Nat} {T : Nat → Nat × Nat} {r : Nat → Nat → Option Nat} {I : am_I} {L : am_J} (h : Inv D N T r I L) {u m j : Nat} {A F : am_I} (hu : u ≤ 16) (hm : m ≤ 8) (em : I 68 1 = nI m) (eu : I 29 0 = nI u) (hj : j + 1 = u)
    (old : ∀ j, j < u → I 72 j = I 30 j ∧ usv m (I 30 j) (I 31 j) (I 32 j) (I 33 j) (I 34 j) ∧ ∀ i, i < 21 → I 71 (21 * j + i) = ust (I 30 j) (I 31 j) (I 32 j) (I 33 j) (I 34 j) (fun i => if j + 1 = u then I 68 (5 + i) else I 71 (21 * (j + 1) + i)) i)
    (a0 : ∀ c, c ≠ 1 → c ≠ 6 → c ≠ 7 → c ≠ 12 → c ≠ 29 → A c = I c) (a1 : ∀ i, i ≠ 18 → A 1 i = I 1 i) (a29 : A 29 0 = nI j)
    (f0 : ∀ c, c ≠ 0 → c ≠ 66 → c ≠ 68 → F c = A c) (f66 : ∀ i, i ≠ 0 → i ≠ 1 → i ≠ 8 → F 66 i = I 66 i) (f668 : F 66 8 = nI j) (f661 : F 66 1 = 0) (f012 : F 0 12 = 0) (f010 : F 0 10 = 0) (f013 : F 0 13 = I 0 13) (f68 : ∀ i, (i < 5 ∨ 26 ≤ i) → F 68 i = I 68 i) (f71 : ∀ i, i < 21 → F 68 (5 + i) = I 71 (21 * j + i))
    (fm : PRm (A 1) (I 4) (I 5) (A 6) (A 7) (I 8) (F 68)) (ft : PRt (A 1) (A 12) (F 68)) : Inv D N T r F L := by
  obtain ⟨⟨h1, h2, h3, h4, h5, h6, h7, h8, h9, q1, q2, q3, q4, q5⟩, hdd⟩ := h
  have low : ∀ c, c ≠ 0 → c ≠ 1 → c ≠ 6 → c ≠ 7 → c ≠ 12 → c ≠ 29 → c ≠ 66 → c ≠ 68 → F c = I c := fun c c0 c1 c6 c7 c12 c29 c66 c68 => by rw [f0 c c0 c66 c68, a0 c c1 c6 c7 c12 c29]
  have F1 : F 1 = A 1 := f0 1 (by decide) (by decide) (by decide)
  have F6 : F 6 = A 6 := f0 6 (by decide) (by decide) (by decide)
  have F7 : F 7 = A 7 := f0 7 (by decide) (by decide) (by decide)
  have F12 : F 12 = A 12 := f0 12 (by decide) (by decide) (by decide)
  have F29 : F 29 0 = nI j := by rw [f0 29 (by decide) (by decide) (by decide)]; exact a29
  have F2 : F 2 = I 2 := by apply low <;> decide
  have F3 : F 3 = I 3 := by apply low <;> decide
  have F4 : F 4 = I 4 := by apply low <;> decide
  have F5 : F 5 = I 5 := by apply low <;> decide
  have F8 : F 8 = I 8 := by apply low <;> decide
  have F9 : F 9 = I 9 := by apply low <;> decide
  have F10 : F 10 = I 10 := by apply low <;> decide
  have F14 : F 14 = I 14 := by apply low <;> decide
  have F15 : F 15 = I 15 := by apply low <;> decide
  have F75 : F 75 = I 75 := by apply low <;> decide
  have F63 : F 63 = I 63 := by apply low <;> decide
  have F64 : F 64 = I 64 := by apply low <;> decide
  have F98 : F 98 = I 98 := by apply low <;> decide
  have F65 : F 65 = I 65 := by apply low <;> decide
  have F67 : F 67 = I 67 := by apply low <;> decide
  have F35 : F 35 = I 35 := by apply low <;> decide
  have F92 : F 92 = I 92 := by apply low <;> decide
  have F69 : F 69 = I 69 := by apply low <;> decide
  have F70 : F 70 = I 70 := by apply low <;> decide
  have F71 : F 71 = I 71 := by apply low <;> decide
  have F72 : F 72 = I 72 := by apply low <;> decide
  have F30 : F 30 = I 30 := by apply low <;> decide
  have F31 : F 31 = I 31 := by apply low <;> decide
  have F32 : F 32 = I 32 := by apply low <;> decide
  have F33 : F 33 = I 33 := by apply low <;> decide
  have F34 : F 34 = I 34 := by apply low <;> decide
  have f1 : ∀ i, i ≠ 18 → F 1 i = I 1 i := fun i hi => by rw [F1]; exact a1 i hi
  refine ⟨⟨?_, ?_, ?_, ?_, ?_, ?_, ?_, ?_, ?_, ?_⟩, hD _ _ _ I _ _ ⟨fun c hc => ?_, f1 15 (by decide), fun i hi => f68 i (by omega), F69, F70, Or.inl f010⟩ hdd⟩
  · rw [F2, F3]
    exact PRd_cg h1 (f1 2 (by decide)) (f1 3 (by decide)) (fun _ _ => rfl) (fun _ _ => rfl) (f68 0 (by omega)) (fun i g1 g2 => f68 i (by omega))
  · rw [F1, F4, F5, F6, F7, F8]
    exact fm
  · rw [F9, F10]
    exact PRc_cg h3 (f1 13 (by decide)) (f68 1 (by omega)) (f68 2 (by omega)) (fun i g1 g2 => f68 i (by omega))
  · exact PRl_cg h4 (f1 15 (by decide)) (f1 16 (by decide)) (f68 3 (by omega)) (f68 4 (by omega))
  · rw [F1, F12]
    exact ft
  · rw [F14, F15, F75, f66 13 (by decide) (by decide) (by decide)]
    exact h6
  · rw [F30, F31, F32, F33, F34, F71, F72]
    refine ⟨j, m, by omega, hm, (f68 1 (by omega)).trans em, F29, f668, fun k hk => ?_⟩
    obtain ⟨o1, o2, o3⟩ := old k (by omega)
    refine ⟨o1, o2, fun i hi => (o3 i hi).trans (ust_cg (fun i hi => ?_) hi)⟩
    rw [if_neg (by omega)]
    by_cases e : k + 1 = j
    · rw [if_pos e, f71 i hi, e]
    · rw [if_neg e]
  · rw [F63, F64, F98, f66 60 (by decide) (by decide) (by decide), f66 61 (by decide) (by decide) (by decide)]
    exact h8
  · rw [F65, F67]
    obtain ⟨m1, m2, m3, m4, m5, m6, m7⟩ := h9
    exact ⟨f012.trans f661.symm, m2, m3, m4, m5, m6, by rw [f013, f66 11 (by decide) (by decide) (by decide)]; exact m7⟩
  · rw [F14, F35, F92]
    exact ⟨by rw [f66 18 (by decide) (by decide) (by decide)]; exact q1, by rw [f66 56 (by decide) (by decide) (by decide)]; exact q2, by rw [f66 20 (by decide) (by decide) (by decide)]; exact q3, q4, q5⟩
  · exact low c (by omega) (by omega) (by omega) (by omega) (by omega) (by omega) (by omega) (by omega)
theorem o_22 {D : am_P} (hD : FrD D) {N : Nat} {T : Nat → Nat × Nat} {r : Nat → Nat → Option Nat} {I : am_I} {L : am_J} (h : Inv D N T r I L) : op_22 (Inv D) N T r I L := by
  unfold op_22 w_122 w_123
  obtain ⟨m, v, hm, hv, e1, e2, e3, hp⟩ := id h.1.2.1
  obtain ⟨a, b, c, d, e, ha, hb1, hb2, hc, hd, he, q1, q2, q3, q4, q5, s1, s2, s3, s4, s5⟩ := id h.1.2.2.2.2.1
  obtain ⟨u, m', hu, hm', w1, eu, eu2, old⟩ := id h.1.2.2.2.2.2.2.1
  have emm : m' = m := by
    rw [e2] at w1
    exact ((nb_inj (by omega) (by omega)).mp w1).symm
  subst emm
  rw [eu]
  by_cases u0 : u = 0
  · rw [if_neg (by rw [u0]; decide)]
    refine so3 ?_
    show w_178 _ _
    unfold w_178
    refine am_ifp (show I 66 8 = 0 by rw [eu2, u0]; rfl) ?_
    exact tl3 ⟨rfl, inv_r3 hD h⟩
  obtain ⟨j, hj⟩ : ∃ j, j + 1 = u := ⟨u - 1, by omega⟩
  have ej : nI u - 1 = nI j := by
    rw [← hj]
    exact nb_sub (a := j + 1) (b := 1) (by omega)
  rw [if_pos (show (0 : Int32) < nI u from nI_lt (a := 0) (by omega) (by omega)), ej]
  have gj : ¬ (nI j < 0 ∨ 16 ≤ Int32.toNatClampNeg (nI j)) := nb_gd (by omega) (by decide)
  have kj : Int32.toNatClampNeg (nI j) = j := nI_clamp (by omega)
  refine ⟨gj, gj, gj, ?_⟩
  rw [kj]
  rw [kj] at gj
  obtain ⟨o1, o2, o3⟩ := old j (by omega)
  have o3' : ∀ i, i < 21 → I 71 (21 * j + i) = ust (I 30 j) (I 31 j) (I 32 j) (I 33 j) (I 34 j) (fun i => I 68 (5 + i)) i := fun i hi => by
    rw [o3 i hi]
    refine ust_cg (fun i hi => ?_) hi
    rw [if_pos hj]
  -- the reference, behind what the class has set
  have mdl : ∀ (A : am_I) (k : Nat), I 30 j = nI k → k ≤ 3 → (∀ c, c ≠ 1 → c ≠ 6 → c ≠ 7 → c ≠ 12 → c ≠ 29 → A c = I c) → (∀ i, i ≠ 18 → A 1 i = I 1 i) → A 29 0 = nI j → (∀ R' : Nat → Int32, (∀ i, (i < 5 ∨ 26 ≤ i) → R' i = I 68 i) → (∀ i, i < 21 → R' (5 + i) = ust (I 30 j) (I 31 j) (I 32 j) (I 33 j) (I 34 j) (fun i => I 68 (5 + i)) i) → PRm (A 1) (I 4) (I 5) (A 6) (A 7) (I 8) R' ∧ PRt (A 1) (A 12) R') → w_118 (I 30 j) A (fun q3 I4 => w_178 I4 (fun q2 I2 => q3 = q2 ∧ Inv D N T r I2 L)) := by
    intro A k hk hk3 a0 a1 a29 hRR
    rw [hk]
    refine so0 (nI_pos' (by omega)) ?_
    show w_178 _ _
    unfold w_178
    generalize hB : am_u (am_u A 0 12 0) 0 10 0 = B
    have B66 : B 66 = I 66 := by rw [← hB, uu_h (by decide), uu_h (by decide), a0 66 (by decide) (by decide) (by decide) (by decide) (by decide)]
    refine am_ifn (show ¬ B 66 8 = 0 by rw [B66, eu2]; exact nI_ne0 (by omega) (by omega)) ?_
    rw [show B 66 8 = nI u by rw [B66, eu2], ej]
    refine q180 (by omega) ?_
    generalize hZ : am_u (am_u B 66 0 0) 66 8 (nI j) = Z
    have Zc : ∀ c, c ≠ 0 → c ≠ 66 → Z c = A c := fun c c0 c66 => by rw [← hZ, uu_h c66, uu_h c66, ← hB, uu_h c0, uu_h c0]
    have Z71 : Z 71 = I 71 := by rw [Zc 71 (by decide) (by decide), a0 71 (by decide) (by decide) (by decide) (by decide) (by decide)]
    have Z72 : Z 72 = I 72 := by rw [Zc 72 (by decide) (by decide), a0 72 (by decide) (by decide) (by decide) (by decide) (by decide)]
    have Z68 : Z 68 = I 68 := by rw [Zc 68 (by decide) (by decide), a0 68 (by decide) (by decide) (by decide) (by decide) (by decide)]
    have Z668 : Z 66 8 = nI j := by rw [← hZ, uu_e]
    generalize hC : cpl Z 68 (fun i => Z 71 (21 * j + i)) 5 21 = C
    have Cc : ∀ c, c ≠ 68 → C c = Z c := fun c hc => by rw [← hC, cpl_c hc]
    show ¬ (C 66 8 < 0 ∨ 16 ≤ Int32.toNatClampNeg (C 66 8)) ∧ _
    rw [Cc 66 (by decide), Z668]
    refine ⟨(show ¬ (nI j < 0 ∨ 16 ≤ Int32.toNatClampNeg (nI j)) by rw [kj]; exact gj), ?_⟩
    rw [kj, Cc 72 (by decide), Z72, o1, hk]
    refine tl0 (nI_pos' (by omega)) ⟨rfl, ?_⟩
    have C68a : ∀ i, (i < 5 ∨ 26 ≤ i) → C 68 i = I 68 i := fun i hi => by rw [← hC, cpl_out (by omega), Z68]
    have C68b : ∀ i, i < 21 → C 68 (5 + i) = I 71 (21 * j + i) := fun i hi => by rw [← hC, cpl_in hi, Z71]
    obtain ⟨fm, ft⟩ := hRR (C 68) C68a (fun i hi => (C68b i hi).trans (o3' i hi))
    have e0 : am_u C 66 1 0 0 = am_u (am_u A 0 12 0) 0 10 0 0 := by rw [uu_h (by decide), Cc 0 (by decide), ← hZ, uu_h (by decide), uu_h (by decide), hB]
    refine inv_undo hD h hu hm e2 eu hj old a0 a1 a29 (fun c c0 c66 c68 => ?_) (fun i i0 i1 i8 => ?_) ?_ uu_e ?_ ?_ ?_ (fun i hi => ?_) (fun i hi => ?_) fm ft
    · rw [uu_h c66, Cc c c68, Zc c c0 c66]
    · rw [uu_n i1, Cc 66 (by decide), ← hZ, uu_n i8, uu_n i0, B66]
    · rw [uu_n (by decide), Cc 66 (by decide), Z668]
    · rw [e0, uu_n (by decide), uu_e]
    · rw [e0, uu_e]
    · rw [e0, uu_n (by decide), uu_n (by decide), a0 0 (by decide) (by decide) (by decide) (by decide) (by decide)]
    · rw [uu_c (by decide)]
      exact C68a i hi
    · rw [uu_c (by decide)]
      exact C68b i hi
  rcases o2 with ⟨k0, p, x, hpm, hx, ew, ea⟩ | ⟨k1, p, x, q, y, hpm, hqm, hpq, hx, hy, ew, ea, eo, eb⟩ | ⟨k2, x, hx, ea⟩ | ⟨k3, x, hx, ea⟩
  · rw [if_pos k0]
    have kp : Int32.toNatClampNeg (nI p) = p := nI_clamp (by omega)
    refine ⟨gj, ?_, gj, ?_⟩
    · rw [ew]
      exact nb_gd (by omega) (by decide)
    rw [ew, kp, ea]
    refine mdl _ 0 k0 (by decide) (fun c c1 c6 c7 c12 c29 => by rw [uu_h c6, uu_h c29]) (fun i _ => by rw [uu_h (by decide), uu_h (by decide)]) (by rw [uu_c (by decide), uu_e]) (fun R' r0 r1 => ?_)
    have A1 : am_u (am_u I 29 0 (nI j)) 6 p (nI x) 1 = I 1 := by rw [uu_h (by decide), uu_h (by decide)]
    have A7 : am_u (am_u I 29 0 (nI j)) 6 p (nI x) 7 = I 7 := by rw [uu_h (by decide), uu_h (by decide)]
    have A12 : am_u (am_u I 29 0 (nI j)) 6 p (nI x) 12 = I 12 := by rw [uu_h (by decide), uu_h (by decide)]
    have r2 : ∀ i, i ≠ 10 + p → R' i = I 68 i := by
      intro i hi
      by_cases hc : i < 5 ∨ 26 ≤ i
      · exact r0 i hc
      · rw [show i = 5 + (i - 5) by omega, r1 (i - 5) (by omega)]
        unfold ust
        rw [if_pos k0, ew, kp, if_neg (by omega)]
    have r3 : R' (10 + p) = nI x := by
      rw [show 10 + p = 5 + (5 + p) by omega, r1 (5 + p) (by omega)]
      unfold ust
      rw [if_pos k0, ew, kp, if_pos rfl, ea]
    rw [A1, A7, A12]
    refine ⟨⟨m', v, hm, hv, e1, (r2 1 (by omega)).trans e2, e3, fun i hi => ?_⟩, PRt_cg h.1.2.2.2.2.1 rfl (fun i _ _ => r2 i (by omega))⟩
    obtain ⟨b0, yj, wj, aj, kj', tj, j1, j2, j3, j4, j5, j6, i1, i2, i3, i4, i5, p1, p2, p3, p4, p5⟩ := hp i hi
    refine ⟨(r2 _ (by omega)).trans b0, ?_⟩
    by_cases ei : i = p
    · subst ei
      exact ⟨yj, wj, x, kj', tj, j1, j2, j3, hx, j5, j6, i1, i2, uu_e, i4, i5, (r2 _ (by omega)).trans p1, (r2 _ (by omega)).trans p2, r3, (r2 _ (by omega)).trans p4, (r2 _ (by omega)).trans p5⟩
    · exact ⟨yj, wj, aj, kj', tj, j1, j2, j3, j4, j5, j6, i1, i2, by rw [uu_n ei, uu_c (by decide)]; exact i3, i4, i5, (r2 _ (by omega)).trans p1, (r2 _ (by omega)).trans p2, (r2 _ (by omega)).trans p3, (r2 _ (by omega)).trans p4, (r2 _ (by omega)).trans p5⟩
  · rw [if_neg (by rw [k1]; decide), if_pos k1]
    have kp : Int32.toNatClampNeg (nI p) = p := nI_clamp (by omega)
    have kq : Int32.toNatClampNeg (nI q) = q := nI_clamp (by omega)
    refine ⟨gj, ?_, gj, ?_, gj, ?_⟩
    · rw [ew]
      exact nb_gd (by omega) (by decide)
    · rw [eo]
      exact nb_gd (by omega) (by decide)
    rw [ew, eo, kp, kq, ea, eb]
    refine mdl _ 1 k1 (by decide) (fun c c1 c6 c7 c12 c29 => by rw [uu_h c7, uu_h c7, uu_h c29]) (fun i _ => by rw [uu_h (by decide), uu_h (by decide), uu_h (by decide)]) (by rw [uu_c (by decide), uu_c (by decide), uu_e]) (fun R' r0 r1 => ?_)
    have A1 : am_u (am_u (am_u I 29 0 (nI j)) 7 p (nI x)) 7 q (nI y) 1 = I 1 := by rw [uu_h (by decide), uu_h (by decide), uu_h (by decide)]
    have A6 : am_u (am_u (am_u I 29 0 (nI j)) 7 p (nI x)) 7 q (nI y) 6 = I 6 := by rw [uu_h (by decide), uu_h (by decide), uu_h (by decide)]
    have A12 : am_u (am_u (am_u I 29 0 (nI j)) 7 p (nI x)) 7 q (nI y) 12 = I 12 := by rw [uu_h (by decide), uu_h (by decide), uu_h (by decide)]
    have n0 : ¬ I 30 j = 0 := by rw [k1]; decide
    have r2 : ∀ i, i ≠ 18 + p → i ≠ 18 + q → R' i = I 68 i := by
      intro i hi hi2
      by_cases hc : i < 5 ∨ 26 ≤ i
      · exact r0 i hc
      · rw [show i = 5 + (i - 5) by omega, r1 (i - 5) (by omega)]
        unfold ust
        rw [if_neg n0, if_pos k1, ew, eo, kp, kq, if_neg (by omega), if_neg (by omega)]
    have r3 : R' (18 + p) = nI x := by
      rw [show 18 + p = 5 + (13 + p) by omega, r1 (13 + p) (by omega)]
      unfold ust
      rw [if_neg n0, if_pos k1, ew, eo, kp, kq, if_neg (by omega), if_pos rfl, ea]
    have r4 : R' (18 + q) = nI y := by
      rw [show 18 + q = 5 + (13 + q) by omega, r1 (13 + q) (by omega)]
      unfold ust
      rw [if_neg n0, if_pos k1, ew, eo, kp, kq, if_pos rfl, eb]
    rw [A1, A6, A12]
    refine ⟨⟨m', v, hm, hv, e1, (r2 1 (by omega) (by omega)).trans e2, e3, fun i hi => ?_⟩, PRt_cg h.1.2.2.2.2.1 rfl (fun i _ _ => r2 i (by omega) (by omega))⟩
    obtain ⟨b0, yj, wj, aj, kj', tj, j1, j2, j3, j4, j5, j6, i1, i2, i3, i4, i5, p1, p2, p3, p4, p5⟩ := hp i hi
    refine ⟨(r2 _ (by omega) (by omega)).trans b0, ?_⟩
    by_cases ei : i = p
    · subst ei
      exact ⟨yj, wj, aj, x, tj, j1, j2, j3, j4, hx, j6, i1, i2, i3, by rw [uu_n hpq, uu_e], i5, (r2 _ (by omega) (by omega)).trans p1, (r2 _ (by omega) (by omega)).trans p2, (r2 _ (by omega) (by omega)).trans p3, r3, (r2 _ (by omega) (by omega)).trans p5⟩
    · by_cases ei2 : i = q
      · subst ei2
        exact ⟨yj, wj, aj, y, tj, j1, j2, j3, j4, hy, j6, i1, i2, i3, uu_e, i5, (r2 _ (by omega) (by omega)).trans p1, (r2 _ (by omega) (by omega)).trans p2, (r2 _ (by omega) (by omega)).trans p3, r4, (r2 _ (by omega) (by omega)).trans p5⟩
      · exact ⟨yj, wj, aj, kj', tj, j1, j2, j3, j4, j5, j6, i1, i2, i3, by rw [uu_n ei2, uu_n ei, uu_c (by decide)]; exact i4, i5, (r2 _ (by omega) (by omega)).trans p1, (r2 _ (by omega) (by omega)).trans p2, (r2 _ (by omega) (by omega)).trans p3, (r2 _ (by omega) (by omega)).trans p4, (r2 _ (by omega) (by omega)).trans p5⟩
  · rw [if_neg (by rw [k2]; decide), if_neg (by rw [k2]; decide), if_pos k2]
    refine ⟨gj, gj, ?_⟩
    rw [ea]
    refine mdl _ 2 k2 (by decide) (fun c c1 c6 c7 c12 c29 => by rw [uu_h c1, uu_h c29]) (fun i hi => by rw [uu_n hi, uu_h (by decide)]) (by rw [uu_c (by decide), uu_e]) (fun R' r0 r1 => ?_)
    have n0 : ¬ I 30 j = 0 := by rw [k2]; decide
    have n1 : ¬ I 30 j = 1 := by rw [k2]; decide
    have r2 : ∀ i, i ≠ 9 → R' i = I 68 i := by
      intro i hi
      by_cases hc : i < 5 ∨ 26 ≤ i
      · exact r0 i hc
      · rw [show i = 5 + (i - 5) by omega, r1 (i - 5) (by omega)]
        unfold ust
        rw [if_neg n0, if_neg n1, if_pos k2, if_neg (by omega)]
    have r3 : R' 9 = nI x := by
      rw [show 9 = 5 + 4 by omega, r1 4 (by omega)]
      unfold ust
      rw [if_neg n0, if_neg n1, if_pos k2, if_pos rfl, ea]
    have A1 : ∀ i, i ≠ 18 → am_u (am_u I 29 0 (nI j)) 1 18 (nI x) 1 i = I 1 i := fun i hi => by rw [uu_n hi, uu_c (by decide)]
    have A6 : am_u (am_u I 29 0 (nI j)) 1 18 (nI x) 6 = I 6 := by rw [uu_h (by decide), uu_h (by decide)]
    have A7 : am_u (am_u I 29 0 (nI j)) 1 18 (nI x) 7 = I 7 := by rw [uu_h (by decide), uu_h (by decide)]
    have A12 : am_u (am_u I 29 0 (nI j)) 1 18 (nI x) 12 = I 12 := by rw [uu_h (by decide), uu_h (by decide)]
    rw [A6, A7, A12]
    refine ⟨PRm_cg h.1.2.1 (A1 10 (by decide)) (A1 9 (by decide)) (r2 1 (by omega)) (fun i _ _ => r2 i (by omega)), ?_⟩
    exact ⟨a, b, c, d, x, ha, hb1, hb2, hc, hd, hx, q1, q2, q3, q4, uu_e, (r2 5 (by decide)).trans s1, (r2 6 (by decide)).trans s2, (r2 7 (by decide)).trans s3, (r2 8 (by decide)).trans s4, r3⟩
  · rw [if_neg (by rw [k3]; decide), if_neg (by rw [k3]; decide), if_neg (by rw [k3]; decide)]
    refine ⟨gj, gj, ?_⟩
    rw [ea]
    refine mdl _ 3 k3 (by decide) (fun c c1 c6 c7 c12 c29 => by rw [uu_h c12, uu_h c29]) (fun i hi => by rw [uu_h (by decide), uu_h (by decide)]) (by rw [uu_c (by decide), uu_e]) (fun R' r0 r1 => ?_)
    have n0 : ¬ I 30 j = 0 := by rw [k3]; decide
    have n1 : ¬ I 30 j = 1 := by rw [k3]; decide
    have n2 : ¬ I 30 j = 2 := by rw [k3]; decide
    have r2 : ∀ i, i ≠ 5 → R' i = I 68 i := by
      intro i hi
      by_cases hc : i < 5 ∨ 26 ≤ i
      · exact r0 i hc
      · rw [show i = 5 + (i - 5) by omega, r1 (i - 5) (by omega)]
        unfold ust
        rw [if_neg n0, if_neg n1, if_neg n2, if_neg (by omega)]
    have r3 : R' 5 = nI x := by
      rw [show 5 = 5 + 0 by omega, r1 0 (by omega)]
      unfold ust
      rw [if_neg n0, if_neg n1, if_neg n2, if_pos rfl, ea]
    have A1 : am_u (am_u I 29 0 (nI j)) 12 0 (nI x) 1 = I 1 := by rw [uu_h (by decide), uu_h (by decide)]
    have A6 : am_u (am_u I 29 0 (nI j)) 12 0 (nI x) 6 = I 6 := by rw [uu_h (by decide), uu_h (by decide)]
    have A7 : am_u (am_u I 29 0 (nI j)) 12 0 (nI x) 7 = I 7 := by rw [uu_h (by decide), uu_h (by decide)]
    rw [A1, A6, A7]
    refine ⟨PRm_cg h.1.2.1 rfl rfl (r2 1 (by omega)) (fun i _ _ => r2 i (by omega)), ?_⟩
    refine ⟨x, b, c, d, e, hx, hb1, hb2, hc, hd, he, uu_e, ?_, ?_, ?_, q5, r3, (r2 6 (by decide)).trans s2, (r2 7 (by decide)).trans s3, (r2 8 (by decide)).trans s4, (r2 9 (by decide)).trans s5⟩
    · rw [uu_n (by decide), uu_c (by decide)]
      exact q2
    · rw [uu_n (by decide), uu_c (by decide)]
      exact q3
    · rw [uu_n (by decide), uu_c (by decide)]
      exact q4
