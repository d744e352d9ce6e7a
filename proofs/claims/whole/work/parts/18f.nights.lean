/-! nights: the call -/
theorem ngt_s (x : Int32) : f_182 x.toInt64 0 1000000 = f_13 x 0 1000000 := q182 x 0 1000000
theorem ngt_n (x : Int32) : f_182 x.toInt64 1 100 = f_13 x 1 100 := q182 x 1 100
theorem o_36 {D : am_P} (hD : FrD D) (hL : FrL D) {N : Nat} {T : Nat → Nat × Nat} {r : Nat → Nat → Option Nat} {I : am_I} {L : am_J} (h : Inv D N T r I L) (x1 x2 : Int32) : op_36 x1 x2 (Inv D) N T r I L := by
  unfold op_36 w_168
  obtain ⟨m, v, hm, hv, e1, e2, e3, hp⟩ := h.1.2.1
  obtain ⟨n, w, a, b, hn, hw, d1, d2, d3, hdr, hdc⟩ := door_ab h.1.1
  obtain ⟨h0, tb, o, td, e, t1, t2, t3, t4, t5, t6, q1, q2, q3, q4, q5, s1, s2, s3, s4, s5⟩ := h.1.2.2.2.2.1
  rcases q13 x1 0 1000000 (by decide) (by decide) with ⟨a1, _⟩ | ⟨a1, s, _, hs, rfl⟩
  · have a1 : f_13 x1 0 1000000 = 0 := a1
    rw [if_pos a1]
    refine rf1 ?_
    show w_299 _ _ _ _ _
    unfold w_299
    rw [ngt_s]
    exact am_ifp a1 (tl1 ⟨rfl, inv_r1 hD h⟩)
  have n1 : ¬ f_13 (nI s) 0 1000000 = 0 := by rw [show f_13 (nI s) 0 1000000 = 1 from a1]; decide
  rw [if_neg n1]
  rcases q13 x2 1 100 (by decide) (by decide) with ⟨b1', _⟩ | ⟨b1', nn, hn1, hnn, rfl⟩
  · have b1' : f_13 x2 1 100 = 0 := b1'
    rw [if_pos b1']
    refine rf1 ?_
    show w_299 _ _ _ _ _
    unfold w_299
    rw [ngt_s, ngt_n]
    exact am_ifn n1 (am_ifp b1' (tl1 ⟨rfl, inv_r1 hD h⟩))
  have n2 : ¬ f_13 (nI nn) 1 100 = 0 := by rw [show f_13 (nI nn) 1 100 = 1 from b1']; decide
  rw [if_neg n2, e1, d1]
  by_cases m0 : m = 0
  · rw [if_pos (by rw [m0]; rfl)]
    refine rf3 ?_
    show w_299 _ _ _ _ _
    unfold w_299
    rw [ngt_s, ngt_n]
    refine am_ifn n1 (am_ifn n2 (am_ifp (show I 68 1 = 0 by rw [e2, m0]; rfl) (tl3 ⟨rfl, inv_r3 hD h⟩)))
  rw [if_neg (nz0 (by omega) m0)]
  have m1 : ¬ I 68 1 = 0 := by rw [e2]; exact nz0 (by omega) m0
  by_cases n0 : n = 0
  · rw [if_pos (by rw [n0]; rfl)]
    refine rf3 ?_
    show w_299 _ _ _ _ _
    unfold w_299
    rw [ngt_s, ngt_n]
    refine am_ifn n1 (am_ifn n2 (am_ifn m1 (am_ifp (show I 68 0 = 0 by rw [d2, n0]; rfl) (tl3 ⟨rfl, inv_r3 hD h⟩))))
  rw [if_neg (nz0 (by omega) n0)]
  have m2 : ¬ I 68 0 = 0 := by rw [d2]; exact nz0 (by omega) n0
  unfold w_169
  refine ⟨⟨rfl, rfl, by decide, by decide, by decide, show 0 + 8 ≤ 8 from by decide, show 0 + 8 ≤ 8 from by decide⟩, _, rfl, ?_⟩
  generalize hG : am_ci (am_u (am_u I 63 3 (nI s)) 63 0 (I 1 10)) 6 64 (Int32.toNatClampNeg (0 : Int32)) (Int32.toNatClampNeg (0 : Int32)) (Int32.toNatClampNeg (8 : Int32)) = G
  have g0 : ∀ c, c ≠ 63 → c ≠ 64 → G c = I c := fun c c1 c2 => by
    rw [← hG]
    unfold am_ci
    funext k
    rw [if_neg c2, uu_c c1, uu_c c1]
  have g63 : ∀ k, k ≠ 3 → k ≠ 0 → G 63 k = I 63 k := fun k k3 k0 => by
    rw [← hG]
    unfold am_ci
    rw [if_neg (by decide), uu_n k0, uu_n k3]
  have g633 : G 63 3 = nI s := by
    rw [← hG]
    rfl
  have g630 : G 63 0 = nI m := by
    rw [← hG]
    exact e1
  have g64 : ∀ q, q < 8 → G 64 q = I 6 q := fun q hq => by
    rw [← hG]
    show va_cpy (I 6) (I 64) 0 0 8 q = I 6 q
    unfold va_cpy
    rw [if_pos (by omega)]
    congr 1
    omega
  have G68 : G 68 = I 68 := g0 68 (by decide) (by decide)
  have hp6 := (pp_k hp).2.2
  have hB : NB G m n w v o a b := by
    unfold NB
    rw [g0 1 (by decide) (by decide), g0 2 (by decide) (by decide), g0 3 (by decide) (by decide), g0 4 (by decide) (by decide), g0 5 (by decide) (by decide), g0 6 (by decide) (by decide), g0 7 (by decide) (by decide), g0 8 (by decide) (by decide), g0 12 (by decide) (by decide), G68]
    exact ⟨hm, by omega, hn, by omega, hw, t4, e1, d1, d3, q3, e2, d2, s3, hp, hdr, hdc⟩
  have hN0 : PN (I 68) (I 68) m := ⟨fun k _ _ _ => rfl, fun q hq => by
    obtain ⟨x, hx, _, ex⟩ := hp6 q hq
    exact ⟨x, hx, ex⟩, e, t6, s5⟩
  have hH : ∃ H, H = min nn (9999 - h0) ∧ (if (9999 - (G 12 0)) < nI nn then (9999 - (G 12 0)) else nI nn) = nI H := by
    refine ⟨_, rfl, ?_⟩
    rw [g0 12 (by decide) (by decide), q1, show (9999 : Int32) - nI h0 = nI (9999 - h0) from nb_sub (a := 9999) (by omega)]
    by_cases c : 9999 - h0 < nn
    · rw [if_pos (nI_lt c (by omega)), Nat.min_eq_right (by omega)]
    · rw [if_neg (nI_nlt (by omega) (by omega)), Nat.min_eq_left (by omega)]
  obtain ⟨H, eH, hH⟩ := hH
  rw [hH, g0 1 (by decide) (by decide), q5]
  have nw0 : NW G G (nR (G 68) m n s 0) m (nS s 0) := ⟨fun c _ _ => rfl, fun k _ => rfl, g633, fun q hq => by
    rw [g64 q (by omega)]
    show I 6 q = G 68 (10 + q)
    obtain ⟨x, hx, ex, ex2⟩ := hp6 q hq
    rw [G68, ex, ex2]⟩
  have z := l169 (T := T) (r := r) (I := G) (m := m) (n := n) (w := w) (v := v) (o := o) (s := s) (H := H) (a := a) (b := b) (E := fun o6 o7 o8 I9 => w_16 o7 (am_u I9 63 1 (o6 - I9 1 18)) (fun q7 I8 => w_299 (nI s) (nI nn) I8 L (fun q2 I2 L2 => q7 = q2 ∧ Inv D N T r I2 L2))) hB hs (by omega) (by rw [G68]; exact hN0) (fun J u hJ => ?_) H 0 G (by omega) nw0
  · refine ⟨H + 1, ?_⟩
    rw [show nR (G 68) m n s 0 9 = nI e by rw [G68]; exact s5] at z
    exact z
  rw [G68] at hJ ⊢
  obtain ⟨k1, k2, k3, k4⟩ := hJ
  have J0 : ∀ c, c ≠ 63 → c ≠ 64 → J c = I c := fun c c1 c2 => (k1 c c1 c2).trans (g0 c c1 c2)
  unfold w_16
  generalize hM : am_u (am_u (am_u J 63 1 (nR (I 68) m n s H 9 - J 1 18)) 0 12 0) 0 10 0 = M
  have M0 : ∀ c, c ≠ 0 → c ≠ 63 → c ≠ 64 → M c = I c := fun c c0 c1 c2 => by
    rw [← hM, uu_h c0, uu_h c0, uu_h c1]
    exact J0 c c1 c2
  have M68 : M 68 = I 68 := M0 68 (by decide) (by decide) (by decide)
  have M66 : M 66 = I 66 := M0 66 (by decide) (by decide) (by decide)
  have M71 : M 71 = I 71 := M0 71 (by decide) (by decide) (by decide)
  show w_299 _ _ _ _ _
  unfold w_299
  rw [ngt_s, ngt_n]
  refine am_ifn n1 (am_ifn n2 (am_ifn (by rw [M68]; exact m1) (am_ifn (by rw [M68]; exact m2) ?_)))
  refine q256 (x := 16) (by decide) ?_
  generalize hP : cpl (am_u M 66 0 0) 71 (fun i => am_u M 66 0 0 68 (5 + i)) (21 * 16) 21 = P
  have P0 : ∀ c, c ≠ 66 → c ≠ 71 → P c = M c := fun c c1 c2 => by
    rw [← hP, cpl_c c2, uu_h c1]
  have P68 : P 68 = I 68 := (P0 68 (by decide) (by decide)).trans M68
  have P66 : ∀ k, k ≠ 0 → P 66 k = I 66 k := fun k hk => by
    rw [← hP, cpl_c (by decide), uu_n hk, M66]
  have P71 : ∀ k, k < 336 → P 71 k = I 71 k := fun k hk => by
    rw [← hP, cpl_out (by omega), uu_c (by decide), M71]
  have P71b : ∀ i, i < 21 → P 71 (21 * 16 + i) = I 68 (5 + i) := fun i hi => by
    rw [← hP, cpl_in hi, uu_c (by decide), M68]
  have hBP : NB P m n w v o a b := by
    unfold NB
    rw [P0 1 (by decide) (by decide), P0 2 (by decide) (by decide), P0 3 (by decide) (by decide), P0 4 (by decide) (by decide), P0 5 (by decide) (by decide), P0 6 (by decide) (by decide), P0 7 (by decide) (by decide), P0 8 (by decide) (by decide), P0 12 (by decide) (by decide), P68]
    rw [M0 1 (by decide) (by decide) (by decide), M0 2 (by decide) (by decide) (by decide), M0 3 (by decide) (by decide) (by decide), M0 4 (by decide) (by decide) (by decide), M0 5 (by decide) (by decide) (by decide), M0 6 (by decide) (by decide) (by decide), M0 7 (by decide) (by decide) (by decide), M0 8 (by decide) (by decide) (by decide), M0 12 (by decide) (by decide) (by decide)]
    exact ⟨hm, by omega, hn, by omega, hw, t4, e1, d1, d3, q3, e2, d2, s3, hp, hdr, hdc⟩
  have nm0 : NM P P L (am_u L 66 58 (Int32.toInt64 (nI s))) (nR (P 68) m n s 0) (nS s 0) := ⟨fun c _ => rfl, rfl, fun c hc => uu_h hc, by rw [uu_e, nI_l (by omega)]; rfl⟩
  refine ⟨H + 1, l299 (I := P) (L0 := L) (m := m) (n := n) (w := w) (v := v) (o := o) (s := s) (H := H) (nn := nn) (h0 := h0) (a := a) (b := b) hBP hs hnn t1 (by rw [P68]; exact s1) eH (by rw [P68]; exact hN0) (fun Q L' u hQ => ?_) H 0 P _ (by omega) nm0⟩
  rw [P68] at hQ ⊢
  obtain ⟨r1, r2, r3, r4⟩ := hQ
  have hdr2 : ∀ d, d < n → ∃ y z, y < 10 ∧ z < 10 ∧ I 68 (58 + 3 * d) = nI y ∧ I 68 (59 + 3 * d) = nI z := fun d hd => by
    obtain ⟨_, ha, hb, _, da, db⟩ := hdr d hd
    exact ⟨a d, b d, ha, hb, da, db⟩
  have hNH := PN_n (s := s) hm (by omega) (by omega) hdr2 hN0 H
  have Q1 : Q 68 1 = nI m := by
    rw [r2, hNH.1 1 (by decide) (by decide) (by omega)]
    exact e2
  refine ⟨m + 1, l299b (I := am_u Q 66 61 (Q 68 1)) (m := m) (R := nR (I 68) m n s H) hm (by rw [uu_e, Q1]) (by rw [uu_h (by decide), r2]) (fun V u2 v1 v2 => ?_) m 0 _ (by omega) (fun c _ => rfl) (fun k hk => absurd hk (by omega))⟩
  have V0 : ∀ c, c ≠ 98 → c ≠ 66 → V c = Q c := fun c c1 c2 => by rw [v1 c c1, uu_h c2]
  have V66 : V 66 = am_u Q 66 61 (Q 68 1) 66 := v1 66 (by decide)
  refine q180 (x := 16) (by decide) ?_
  have cl := nC_le (I 68) s H
  refine tl0 (nI_pos' (by omega)) ⟨rfl, ?_⟩
  have V68 : V 68 = nR (I 68) m n s H := (V0 68 (by decide) (by decide)).trans r2
  have V71 : V 71 = P 71 := (V0 71 (by decide) (by decide)).trans (r1 71 (by decide))
  generalize hX : am_u V 66 60 (V 68 9 - I 68 9) = X
  have X0 : ∀ c, c ≠ 66 → X c = V c := fun c hc => by rw [← hX, uu_h hc]
  have ex : cpl X 68 (fun i => X 71 (21 * 16 + i)) 5 21 68 = I 68 := by
    funext k
    by_cases c : k < 5 ∨ 5 + 21 ≤ k
    · rw [cpl_out c, X0 68 (by decide), V68]
      exact hNH.1 k (by omega) (by omega) (by omega)
    · obtain ⟨j, rfl⟩ : ∃ j, k = 5 + j := ⟨k - 5, by omega⟩
      rw [cpl_in (by omega), X0 71 (by decide), V71]
      exact P71b j (by omega)
  have Y0 : ∀ c, c ≠ 0 → c ≠ 63 → c ≠ 64 → c ≠ 66 → c ≠ 71 → c ≠ 98 → c ≠ 68 → am_u (cpl X 68 (fun i => X 71 (21 * 16 + i)) 5 21) 66 1 0 c = I c := fun c c0 c63 c64 c66 c71 c98 c68 => by
    rw [uu_h c66, cpl_c c68, X0 c c66, V0 c c98 c66, r1 c c68, P0 c c66 c71, M0 c c0 c63 c64]
  have YM : ∀ c, c ≠ 66 → c ≠ 71 → c ≠ 98 → c ≠ 68 → am_u (cpl X 68 (fun i => X 71 (21 * 16 + i)) 5 21) 66 1 0 c = M c := fun c c66 c71 c98 c68 => by
    rw [uu_h c66, cpl_c c68, X0 c c66, V0 c c98 c66, r1 c c68, P0 c c66 c71]
  have X66 : ∀ k, k ≠ 60 → k ≠ 61 → k ≠ 0 → X 66 k = I 66 k := fun k k0 k1 k2 => by
    rw [← hX, uu_n k0, V66, uu_n k1, r1 66 (by decide), P66 k k2]
  refine inv_ngt hD hL h ?_ ?_ ?_ ?_ ?_ ?_ uu_e ?_ r3
  · intro c c0 c63 c64 c66 c71 c98
    by_cases c68 : c = 68
    · rw [c68, uu_h (by decide)]
      exact ex
    · exact Y0 c c0 c63 c64 c66 c71 c98 c68
  · intro k k1 k2
    rw [YM 0 (by decide) (by decide) (by decide) (by decide), ← hM, uu_n k1, uu_n k2, uu_c (by decide), J0 0 (by decide) (by decide)]
  · rw [YM 0 (by decide) (by decide) (by decide) (by decide), ← hM, uu_e]
  · rw [YM 0 (by decide) (by decide) (by decide) (by decide), ← hM, uu_n (by decide), uu_e]
  · intro k hk
    rw [uu_c (by decide), cpl_c (by decide), X0 71 (by decide), V71]
    exact P71 k hk
  · intro k k0 k1 k60 k61
    rw [uu_n k1, cpl_c (by decide)]
    exact X66 k k60 k61 k0
  · refine Or.inr ⟨m, by omega, hm, ?_, ?_, ?_, fun k hk => ?_⟩
    · rw [YM 63 (by decide) (by decide) (by decide) (by decide), ← hM, uu_c (by decide), uu_c (by decide), uu_n (by decide), k2 0 (by decide)]
      exact g630
    · rw [uu_n (by decide), cpl_c (by decide), ← hX, uu_n (by decide), V66, uu_e, Q1]
    · rw [YM 63 (by decide) (by decide) (by decide) (by decide), ← hM, uu_c (by decide), uu_c (by decide), uu_e, uu_n (by decide), cpl_c (by decide), ← hX, uu_e, V68, J0 1 (by decide) (by decide), q5, s5]
    · rw [YM 64 (by decide) (by decide) (by decide) (by decide), ← hM, uu_c (by decide), uu_c (by decide), uu_c (by decide), k4 k hk, uu_c (by decide), cpl_c (by decide), X0 98 (by decide), v2 k hk]
