/-! row -/
theorem uu_same {f : am_I} {a i : Nat} {v : Int32} (h : f a i = v) : am_u f a i v = f := by
  rw [← h]
  exact uu_id
theorem inv_row {D : am_P} (hD : FrD D) {N : Nat} {T : Nat → Nat × Nat} {r : Nat → Nat → Option Nat} {I J : am_I} {L : am_J} (h : Inv D N T r I L)
    (j0 : ∀ c, c ≠ 1 → c ≠ 4 → c ≠ 5 → c ≠ 6 → c ≠ 7 → c ≠ 8 → c ≠ 0 → c ≠ 14 → c ≠ 29 → c ≠ 66 → c ≠ 68 → J c = I c) (j1 : ∀ i, i ≠ 9 → i ≠ 10 → J 1 i = I 1 i)
    (hP : PRm (J 1) (J 4) (J 5) (J 6) (J 7) (J 8) (J 68)) (hR : ∀ i, i ≠ 1 → (i < 10 ∨ 58 ≤ i) → J 68 i = I 68 i) {m m' : Nat} (r0 : I 68 1 = nI m) (r1 : J 68 1 = nI m') (hmm : m ≤ m') (hm' : m' ≤ 8)
    (j29 : J 29 0 = 0) (j668 : J 66 8 = 0) (j010 : J 0 10 = 0) (jT : TPr (J 14 1) (J 66 13) (I 15) (I 75)) (jM : MSr (J 0) (I 65) (J 66) (I 67)) (jN : J 66 60 = I 66 60) (jN2 : J 66 61 = I 66 61) (jF : J 14 2 = I 14 2) (jF2 : J 66 18 = I 66 18) (jS : J 66 56 = I 66 56) (jO : J 66 20 = I 66 20) : Inv D N T r J L := by
  obtain ⟨⟨h1, h2, h3, h4, h5, h6, h7, h8, h9, f1, f2, f3, f4, f5⟩, hdd⟩ := h
  have q : ∀ c, c ≠ 1 → c ≠ 4 → c ≠ 5 → c ≠ 6 → c ≠ 7 → c ≠ 8 → c ≠ 0 → c ≠ 14 → c ≠ 29 → c ≠ 66 → c ≠ 68 → J c = I c := j0
  have J2 : J 2 = I 2 := by apply q <;> decide
  have J3 : J 3 = I 3 := by apply q <;> decide
  have J9 : J 9 = I 9 := by apply q <;> decide
  have J10 : J 10 = I 10 := by apply q <;> decide
  have J12 : J 12 = I 12 := by apply q <;> decide
  have J15 : J 15 = I 15 := by apply q <;> decide
  have J75 : J 75 = I 75 := by apply q <;> decide
  have J63 : J 63 = I 63 := by apply q <;> decide
  have J64 : J 64 = I 64 := by apply q <;> decide
  have J98 : J 98 = I 98 := by apply q <;> decide
  have J65 : J 65 = I 65 := by apply q <;> decide
  have J67 : J 67 = I 67 := by apply q <;> decide
  have J35 : J 35 = I 35 := by apply q <;> decide
  have J92 : J 92 = I 92 := by apply q <;> decide
  have J69 : J 69 = I 69 := by apply q <;> decide
  have J70 : J 70 = I 70 := by apply q <;> decide
  refine ⟨⟨?_, hP, ?_, ?_, ?_, ?_, ?_, ?_, ?_, ?_⟩, hD _ _ _ I _ _ ⟨fun c hc => ?_, j1 15 (by decide) (by decide), fun i hi => hR i (by omega) (by omega), J69, J70, Or.inl j010⟩ hdd⟩
  · exact PRd_cg h1 (j1 2 (by decide) (by decide)) (j1 3 (by decide) (by decide)) (fun d _ => by rw [J2]) (fun d _ => by rw [J3]) (hR 0 (by omega) (by omega)) (fun i g1 g2 => hR i (by omega) (by omega))
  · obtain ⟨c, mm, hc, hmc, b1, b2, b3, b4⟩ := h3
    have em : mm = m := by
      rw [r0] at b3
      exact ((nb_inj (by omega) (by omega)).mp b3).symm
    subst em
    refine ⟨c, m', hc, hm', (j1 13 (by decide) (by decide)).trans b1, (hR 2 (by omega) (by omega)).trans b2, r1, fun k hk => ?_⟩
    obtain ⟨g, i, hg, hi, c1, c2, c3, c4⟩ := b4 k hk
    exact ⟨g, i, Nat.lt_of_lt_of_le hg (Nat.pow_le_pow_right (by decide) hmm), hi, by rw [J9]; exact c1, by rw [J10]; exact c2, (hR _ (by omega) (by omega)).trans c3, (hR _ (by omega) (by omega)).trans c4⟩
  · exact PRl_cg h4 (j1 15 (by decide) (by decide)) (j1 16 (by decide) (by decide)) (hR 3 (by omega) (by omega)) (hR 4 (by omega) (by omega))
  · rw [J12]
    exact PRt_cg h5 (j1 18 (by decide) (by decide)) (fun i g1 g2 => hR i (by omega) (by omega))
  · rw [J15, J75]
    exact jT
  · exact UNr_0 (m := m') hm' r1 j29 j668
  · rw [J63, J64, J98, jN, jN2]
    exact h8
  · rw [J65, J67]
    exact jM
  · exact ⟨by rw [jF, jF2]; exact f1, by rw [J35, jS]; exact f2, by rw [jO]; exact f3, by rw [J92]; exact f4, f5⟩
  · exact j0 c (by omega) (by omega) (by omega) (by omega) (by omega) (by omega) (by omega) (by omega) (by omega) (by omega) (by omega)
/-- one who comes, in the reference's row -/
def manR (R : Nat → Int32) (y w a : Int32) : Nat → Int32 := fun k => if k = 1 then R 1 + 1 else if k = 50 + Int32.toNatClampNeg (R 1) then 0 else if k = 42 + Int32.toNatClampNeg (R 1) then 0 else if k = 18 + Int32.toNatClampNeg (R 1) then 0 else if k = 10 + Int32.toNatClampNeg (R 1) then a else if k = 34 + Int32.toNatClampNeg (R 1) then w else if k = 26 + Int32.toNatClampNeg (R 1) then y else R k
def okr (R t : Nat → Int32) (z i : Nat) : Bool := decide (3 * i + 2 < z) && (decide (f_23 (t (3 * i)) (t (3 * i + 1)) (t (3 * i + 2)) = 1) && !decide (R 1 = 8))
def rwR (t : Nat → Int32) (z : Nat) (R : Nat → Int32) : Nat → Nat → Int32
  | 0 => R
  | i + 1 => if okr (rwR t z R i) t z i = true then manR (rwR t z R i) (t (3 * i)) (t (3 * i + 1)) (t (3 * i + 2)) else rwR t z R i
def rwC (t : Nat → Int32) (z : Nat) (R : Nat → Int32) : Nat → Nat
  | 0 => 0
  | i + 1 => rwC t z R i + (if okr (rwR t z R i) t z i = true then 1 else 0)
theorem rwC_le (t : Nat → Int32) (z : Nat) (R : Nat → Int32) : ∀ i, rwC t z R i ≤ i
  | 0 => Nat.le_refl 0
  | i + 1 => by
    have ih := rwC_le t z R i
    show rwC t z R i + (if okr (rwR t z R i) t z i = true then 1 else 0) ≤ i + 1
    split <;> omega
theorem manR_m {R : Nat → Int32} {y w a : Int32} {m : Nat} (hm : m < 8) (e : R 1 = nI m) : manR R y w a = fun k => if k = 1 then nI (m + 1) else if k = 50 + m then 0 else if k = 42 + m then 0 else if k = 18 + m then 0 else if k = 10 + m then a else if k = 34 + m then w else if k = 26 + m then y else R k := by
  unfold manR
  rw [e, nI_clamp (by omega), ← nI_succ]
theorem PRm_man {c1 c4 c5 c6 c7 c8 R d1 d4 d5 d6 d7 d8 : Nat → Int32} {m v y w a : Nat} (h : PRm c1 c4 c5 c6 c7 c8 R) (hm : m < 8) (hv : v < 256) (e1 : c1 10 = nI m) (e3 : c1 9 = nI v) (hy1 : 1 ≤ y) (hy2 : y ≤ 99) (hw : w ≤ 9) (ha : a < 10) (j9 : d1 9 = nI (sb v m 0)) (j10 : d1 10 = nI (m + 1))
    (j4 : ∀ i, d4 i = if i = m then nI y else c4 i) (j5 : ∀ i, d5 i = if i = m then nI w else c5 i) (j6 : ∀ i, d6 i = if i = m then nI a else c6 i) (j7 : ∀ i, d7 i = if i = m then 0 else c7 i) (j8 : ∀ i, d8 i = if i = m then 0 else c8 i) : PRm d1 d4 d5 d6 d7 d8 (manR R (nI y) (nI w) (nI a)) := by
  obtain ⟨m', v', hm', hv', a1, a2, a3, hp⟩ := h
  have em : m' = m := by
    rw [e1] at a1
    exact ((nb_inj (by omega) (by omega)).mp a1).symm
  subst em
  have ev : v' = v := by
    rw [e3] at a3
    exact ((nb_inj (by omega) (by omega)).mp a3).symm
  subst ev
  rw [manR_m hm a2]
  refine ⟨m' + 1, sb v' m' 0, by omega, sb_lt (n := 8) hv (by omega) (by decide) (by decide), j10, rfl, j9, fun p hpm => ?_⟩
  rw [bi_sb (by omega) (by decide)]
  by_cases e : p = m'
  · subst e
    refine ⟨?_, y, w, a, 0, 0, hy1, hy2, hw, ha, by decide, by decide, ?_, ?_, ?_, ?_, ?_, ?_, ?_, ?_, ?_, ?_⟩
    · show (if 50 + p = 1 then nI (p + 1) else if 50 + p = 50 + p then (0 : Int32) else _) = _
      rw [if_neg (by omega), if_pos rfl, if_pos rfl]
      rfl
    · rw [j4, if_pos rfl]
    · rw [j5, if_pos rfl]
    · rw [j6, if_pos rfl]
    · rw [j7, if_pos rfl]; rfl
    · rw [j8, if_pos rfl]; rfl
    · show (if 26 + p = 1 then _ else if 26 + p = 50 + p then _ else if 26 + p = 42 + p then _ else if 26 + p = 18 + p then _ else if 26 + p = 10 + p then _ else if 26 + p = 34 + p then _ else if 26 + p = 26 + p then _ else _) = _
      rw [if_neg (by omega), if_neg (by omega), if_neg (by omega), if_neg (by omega), if_neg (by omega), if_neg (by omega), if_pos rfl]
    · show (if 34 + p = 1 then _ else if 34 + p = 50 + p then _ else if 34 + p = 42 + p then _ else if 34 + p = 18 + p then _ else if 34 + p = 10 + p then _ else if 34 + p = 34 + p then _ else _) = _
      rw [if_neg (by omega), if_neg (by omega), if_neg (by omega), if_neg (by omega), if_neg (by omega), if_pos rfl]
    · show (if 10 + p = 1 then _ else if 10 + p = 50 + p then _ else if 10 + p = 42 + p then _ else if 10 + p = 18 + p then _ else if 10 + p = 10 + p then _ else _) = _
      rw [if_neg (by omega), if_neg (by omega), if_neg (by omega), if_neg (by omega), if_pos rfl]
    · show (if 18 + p = 1 then _ else if 18 + p = 50 + p then _ else if 18 + p = 42 + p then _ else if 18 + p = 18 + p then _ else _) = _
      rw [if_neg (by omega), if_neg (by omega), if_neg (by omega), if_pos rfl]
      rfl
    · show (if 42 + p = 1 then _ else if 42 + p = 50 + p then _ else if 42 + p = 42 + p then _ else _) = _
      rw [if_neg (by omega), if_neg (by omega), if_pos rfl]
      rfl
  · rw [if_neg e]
    have kk : ∀ k, k ≠ 1 → k ≠ 50 + m' → k ≠ 42 + m' → k ≠ 18 + m' → k ≠ 10 + m' → k ≠ 34 + m' → k ≠ 26 + m' → (fun k => if k = 1 then nI (m' + 1) else if k = 50 + m' then (0 : Int32) else if k = 42 + m' then 0 else if k = 18 + m' then 0 else if k = 10 + m' then nI a else if k = 34 + m' then nI w else if k = 26 + m' then nI y else R k) k = R k := by
      intro k k1 k2 k3 k4 k5 k6 k7
      show (if k = 1 then nI (m' + 1) else if k = 50 + m' then (0 : Int32) else if k = 42 + m' then 0 else if k = 18 + m' then 0 else if k = 10 + m' then nI a else if k = 34 + m' then nI w else if k = 26 + m' then nI y else R k) = R k
      rw [if_neg k1, if_neg k2, if_neg k3, if_neg k4, if_neg k5, if_neg k6, if_neg k7]
    obtain ⟨z1, y', w', a', k', t', b1, b2, b3, b4, b5, b6, q1, q2, q3, q4, q5, s1, s2, s3, s4, s5⟩ := hp p (by omega)
    refine ⟨(kk _ (by omega) (by omega) (by omega) (by omega) (by omega) (by omega) (by omega)).trans z1, y', w', a', k', t', b1, b2, b3, b4, b5, b6, ?_, ?_, ?_, ?_, ?_, (kk _ (by omega) (by omega) (by omega) (by omega) (by omega) (by omega) (by omega)).trans s1, (kk _ (by omega) (by omega) (by omega) (by omega) (by omega) (by omega) (by omega)).trans s2, (kk _ (by omega) (by omega) (by omega) (by omega) (by omega) (by omega) (by omega)).trans s3, (kk _ (by omega) (by omega) (by omega) (by omega) (by omega) (by omega) (by omega)).trans s4, (kk _ (by omega) (by omega) (by omega) (by omega) (by omega) (by omega) (by omega)).trans s5⟩
    · rw [j4, if_neg e]; exact q1
    · rw [j5, if_neg e]; exact q2
    · rw [j6, if_neg e]; exact q3
    · rw [j7, if_neg e]; exact q4
    · rw [j8, if_neg e]; exact q5
def RwI (I J : am_I) (t : Nat → Int32) (z i : Nat) : Prop := (∀ c, c ≠ 0 → c ≠ 1 → c ≠ 4 → c ≠ 5 → c ≠ 6 → c ≠ 7 → c ≠ 8 → J c = I c) ∧ (∀ k, k ≠ 13 → J 0 k = I 0 k) ∧ J 0 13 = nI (i - rwC t z (I 68) i) ∧ (∀ k, k ≠ 9 → k ≠ 10 → J 1 k = I 1 k) ∧ PRm (J 1) (J 4) (J 5) (J 6) (J 7) (J 8) (rwR t z (I 68) i)
theorem l35 {I : am_I} {z n : Nat} {E : Int32 → Int32 → am_I → Prop} (hz : z ≤ 400) (hn : n = (z + 2) / 3) (hE : ∀ J v, RwI I J (I 15) z n → E (nI (rwC (I 15) z (I 68) n)) v J) : ∀ q i J, i + q = n → RwI I J (I 15) z i → lw_35_28 (q + 1) (nI z) (nI (rwC (I 15) z (I 68) i)) (nI (3 * i)) J E
  | 0, i, J, h, hJ => by
    have hj : i = n := by omega
    subst hj
    unfold lw_35_28
    rw [if_pos (nI_le (by omega) (by omega))]
    exact hE J _ hJ
  | q + 1, i, J, h, hJ => by
    have ih := l35 hz hn hE q (i + 1)
    obtain ⟨k1, k2, k3, k4, k5⟩ := hJ
    have cl := rwC_le (I 15) z (I 68) i
    have x1 : nI (3 * i) + 1 = nI (3 * i + 1) := nb_add _ 1
    have x2 : nI (3 * i) + 2 = nI (3 * i + 2) := nb_add _ 2
    have x3 : nI (3 * i) + 3 = nI (3 * (i + 1)) := by
      rw [show 3 * (i + 1) = 3 * i + 3 by omega]
      exact nb_add _ 3
    have eR : rwR (I 15) z (I 68) (i + 1) = (if okr (rwR (I 15) z (I 68) i) (I 15) z i = true then manR (rwR (I 15) z (I 68) i) (I 15 (3 * i)) (I 15 (3 * i + 1)) (I 15 (3 * i + 2)) else rwR (I 15) z (I 68) i) := rfl
    have eC : rwC (I 15) z (I 68) (i + 1) = rwC (I 15) z (I 68) i + (if okr (rwR (I 15) z (I 68) i) (I 15) z i = true then 1 else 0) := rfl
    have no : okr (rwR (I 15) z (I 68) i) (I 15) z i = false → lw_35_28 (q + 1) (nI z) (nI (rwC (I 15) z (I 68) i)) (nI (3 * (i + 1))) (am_u J 0 13 (J 0 13 + 1)) E := by
      intro hb
      rw [hb] at eR eC
      simp only [Bool.false_eq_true, if_false, Nat.add_zero] at eR eC
      rw [eC] at ih
      refine ih _ (by omega) ⟨fun c c0 c1 c4 c5 c6 c7 c8 => by rw [uu_h c0]; exact k1 c c0 c1 c4 c5 c6 c7 c8, fun k hk => by rw [uu_n hk]; exact k2 k hk, ?_, fun k k9 k10 => by rw [uu_c (by decide)]; exact k4 k k9 k10, ?_⟩
      · rw [uu_e, k3, eC, ← nI_succ, show i - rwC (I 15) z (I 68) i + 1 = i + 1 - rwC (I 15) z (I 68) i by omega]
      · rw [eR]
        exact k5
    unfold lw_35_28
    rw [if_neg (nI_ge (by omega) (by omega)), x1, x2, x3]
    by_cases c0 : z ≤ 3 * i + 2
    · rw [if_pos (nI_le c0 (by omega))]
      refine no ?_
      unfold okr
      rw [decide_eq_false (by omega)]
      rfl
    · rw [if_neg (nI_ge (by omega) (by omega))]
      refine ⟨nb_gd (by omega) (by decide), nb_gd (by omega) (by decide), nb_gd (by omega) (by decide), ?_⟩
      rw [nI_clamp (by omega : 3 * i < 2 ^ 31), nI_clamp (by omega : 3 * i + 1 < 2 ^ 31), nI_clamp (by omega : 3 * i + 2 < 2 ^ 31), k1 15 (by decide) (by decide) (by decide) (by decide) (by decide) (by decide) (by decide)]
      obtain ⟨m, v, hm, hv, e1, e2, e3, hp⟩ := k5
      have k5 : PRm (J 1) (J 4) (J 5) (J 6) (J 7) (J 8) (rwR (I 15) z (I 68) i) := ⟨m, v, hm, hv, e1, e2, e3, hp⟩
      unfold w_36
      by_cases m8 : m = 8
      · refine am_ifp (by rw [e1, m8]; decide) ?_
        refine am_ifp rfl (no ?_)
        unfold okr
        rw [e2, m8, decide_eq_true (show nI 8 = 8 from rfl), Bool.not_true, Bool.and_false, Bool.and_false]
      have m8' : ¬ nI m = 8 := fun e => m8 ((nb_inj (b := 8) (by omega) (by decide)).mp e)
      refine am_ifn (by rw [e1]; exact nI_ge (b := 8) (by omega) (by decide)) ?_
      rcases q23 (I 15 (3 * i)) (I 15 (3 * i + 1)) (I 15 (3 * i + 2)) with ⟨a1, _⟩ | ⟨a1, _, _, _, y, w, a, hy1, hy2, hw, ha1, ha2, t1, t2, t3⟩
      · refine am_ifp a1 ?_
        refine am_ifp rfl (no ?_)
        unfold okr
        rw [a1, decide_eq_false (show ¬ (0 : Int32) = 1 by decide), Bool.false_and, Bool.and_false]
      · refine am_ifn (by rw [a1]; decide) ?_
        have hb : okr (rwR (I 15) z (I 68) i) (I 15) z i = true := by
          unfold okr
          rw [a1, e2, decide_eq_true (show 3 * i + 2 < z by omega), decide_eq_true rfl, decide_eq_false m8']
          rfl
        rw [hb] at eR eC
        simp only [if_true] at eR eC
        rw [eC] at ih
        unfold w_25
        refine am_ifp (by rw [e1]; exact (nb_lt (b := 8) (by omega) (by decide)).mpr (by omega)) ?_
        have g8 : ¬ (J 1 10 < 0 ∨ 8 ≤ Int32.toNatClampNeg (J 1 10)) := nb_gdx e1 (by omega) (by decide)
        refine ⟨g8, g8, g8, g8, g8, ?_⟩
        refine am_ifn (by decide) ?_
        rw [nb_cl e1 (by omega), t1, t2, t3, e1, e3, show f_21 (nI v) (nI m) 0 = nI (sb v m 0) from q21 (b := 0) (by omega) (by decide), ← nI_succ, ← nI_succ]
        refine ih _ (by omega) ⟨fun c c0 c1 c4 c5 c6 c7 c8 => ?_, fun k hk => ?_, ?_, fun k k9 k10 => ?_, ?_⟩
        · rw [uu_h c1, uu_h c1, uu_h c8, uu_h c7, uu_h c6, uu_h c5, uu_h c4]
          exact k1 c c0 c1 c4 c5 c6 c7 c8
        · rw [uu_c (by decide), uu_c (by decide), uu_c (by decide), uu_c (by decide), uu_c (by decide), uu_c (by decide), uu_c (by decide)]
          exact k2 k hk
        · rw [uu_c (by decide), uu_c (by decide), uu_c (by decide), uu_c (by decide), uu_c (by decide), uu_c (by decide), uu_c (by decide), k3, eC, show i + 1 - (rwC (I 15) z (I 68) i + 1) = i - rwC (I 15) z (I 68) i by omega]
        · rw [uu_n k10, uu_n k9, uu_c (by decide), uu_c (by decide), uu_c (by decide), uu_c (by decide), uu_c (by decide)]
          exact k4 k k9 k10
        · rw [eR, t1, t2, t3]
          refine PRm_man k5 (by omega) hv e1 e3 hy1 hy2 hw ha2 ?_ ?_ (fun k => ?_) (fun k => ?_) (fun k => ?_) (fun k => ?_) (fun k => ?_)
          · rw [uu_n (by decide), uu_e]
          · exact uu_e
          · rw [uu_c (by decide), uu_c (by decide), uu_c (by decide), uu_c (by decide), uu_c (by decide), uu_c (by decide)]
            by_cases e : k = m
            · rw [if_pos e, e, uu_e]
            · rw [if_neg e, uu_n e]
          · rw [uu_c (by decide), uu_c (by decide), uu_c (by decide), uu_c (by decide), uu_c (by decide)]
            by_cases e : k = m
            · rw [if_pos e, e, uu_e]
            · rw [if_neg e, uu_n e, uu_c (by decide)]
          · rw [uu_c (by decide), uu_c (by decide), uu_c (by decide), uu_c (by decide)]
            by_cases e : k = m
            · rw [if_pos e, e, uu_e]
            · rw [if_neg e, uu_n e, uu_c (by decide), uu_c (by decide)]
          · rw [uu_c (by decide), uu_c (by decide), uu_c (by decide)]
            by_cases e : k = m
            · rw [if_pos e, e, uu_e]
            · rw [if_neg e, uu_n e, uu_c (by decide), uu_c (by decide), uu_c (by decide)]
          · rw [uu_c (by decide), uu_c (by decide)]
            by_cases e : k = m
            · rw [if_pos e, e, uu_e]
            · rw [if_neg e, uu_n e, uu_c (by decide), uu_c (by decide), uu_c (by decide), uu_c (by decide)]
