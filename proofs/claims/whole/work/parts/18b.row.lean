/-! row, by the reference -/
theorem rwR_m {t : Nat → Int32} {z m : Nat} {R : Nat → Int32} (hm : m ≤ 8) (e : R 1 = nI m) : ∀ i, ∃ m', m ≤ m' ∧ m' ≤ 8 ∧ rwR t z R i 1 = nI m'
  | 0 => ⟨m, Nat.le_refl m, hm, e⟩
  | i + 1 => by
    obtain ⟨m', h1, h2, h3⟩ := rwR_m (t := t) (z := z) hm e i
    show ∃ m', m ≤ m' ∧ m' ≤ 8 ∧ (if okr (rwR t z R i) t z i = true then manR (rwR t z R i) (t (3 * i)) (t (3 * i + 1)) (t (3 * i + 2)) else rwR t z R i) 1 = nI m'
    by_cases c : okr (rwR t z R i) t z i = true
    · rw [if_pos c]
      have n8 : ¬ m' = 8 := by
        intro q
        unfold okr at c
        rw [h3, q, decide_eq_true (show nI 8 = 8 from rfl), Bool.not_true, Bool.and_false, Bool.and_false] at c
        cases c
      refine ⟨m' + 1, by omega, by omega, ?_⟩
      show rwR t z R i 1 + 1 = nI (m' + 1)
      rw [h3, ← nI_succ]
    · rw [if_neg c]
      exact ⟨m', h1, h2, h3⟩
theorem rwR_o {t : Nat → Int32} {z m : Nat} {R : Nat → Int32} (hm : m ≤ 8) (e : R 1 = nI m) {k : Nat} (k1 : k ≠ 1) (k2 : k < 10 ∨ 58 ≤ k) : ∀ i, rwR t z R i k = R k
  | 0 => rfl
  | i + 1 => by
    have ih := rwR_o (t := t) (z := z) hm e k1 k2 i
    obtain ⟨m', h1, h2, h3⟩ := rwR_m (t := t) (z := z) hm e i
    show (if okr (rwR t z R i) t z i = true then manR (rwR t z R i) (t (3 * i)) (t (3 * i + 1)) (t (3 * i + 2)) else rwR t z R i) k = R k
    by_cases c : okr (rwR t z R i) t z i = true
    · rw [if_pos c]
      have n8 : ¬ m' = 8 := by
        intro q
        unfold okr at c
        rw [h3, q, decide_eq_true (show nI 8 = 8 from rfl), Bool.not_true, Bool.and_false, Bool.and_false] at c
        cases c
      rw [manR_m (by omega) h3]
      show (if k = 1 then _ else if k = 50 + m' then _ else if k = 42 + m' then _ else if k = 18 + m' then _ else if k = 10 + m' then _ else if k = 34 + m' then _ else if k = 26 + m' then _ else rwR t z R i k) = R k
      rw [if_neg k1, if_neg (by omega), if_neg (by omega), if_neg (by omega), if_neg (by omega), if_neg (by omega), if_neg (by omega)]
      exact ih
    · rw [if_neg c]
      exact ih
theorem q190n {J : am_I} {x1 x2 x3 : Int32} {K : Int32 → am_I → Prop} (h : f_13 x1 1 99 = 0 ∨ f_13 x2 0 9 = 0 ∨ f_13 x3 1 9 = 0) (hK : K (-1) J) : w_190 x1 x2 x3 J K := by
  unfold w_190
  rw [c182, d182, e182]
  split
  · exact hK
  · split
    · exact hK
    · split
      · exact hK
      · rcases h with q | q | q <;> contradiction
theorem q190 {J : am_I} {m y w a : Nat} {K : Int32 → am_I → Prop} (hm : m < 8) (e2 : J 68 1 = nI m) (b1' : f_13 (nI y) 1 99 = 1) (b2 : f_13 (nI w) 0 9 = 1) (b3 : f_13 (nI a) 1 9 = 1) (hK : ∀ G, (∀ c, c ≠ 68 → G c = J c) → G 68 = manR (J 68) (nI y) (nI w) (nI a) → K (nI m) G) : w_190 (nI y) (nI w) (nI a) J K := by
  unfold w_190
  rw [c182, d182, e182, if_neg (by rw [b1']; decide), if_neg (by rw [b2]; decide), if_neg (by rw [b3]; decide)]
  rw [if_neg (by rw [e2]; exact fun q => (by omega : ¬ m = 8) ((nb_inj (b := 8) (by omega) (by decide)).mp q))]
  have x : ∀ c : Nat, nI c + J 68 1 = nI (c + m) := fun c => by rw [e2, nb_add]
  have gx : ∀ c : Nat, c ≤ 50 → ¬ (nI c + J 68 1 < 0 ∨ 5510 ≤ Int32.toNatClampNeg (nI c + J 68 1)) := fun c hc => nb_gdx (x c) (by omega) (by decide)
  refine ⟨gx 26 (by decide), gx 34 (by decide), gx 10 (by decide), gx 18 (by decide), gx 42 (by decide), gx 50 (by decide), ?_⟩
  have kx : ∀ c : Nat, c ≤ 50 → Int32.toNatClampNeg (nI c + J 68 1) = c + m := fun c hc => nb_cl (x c) (by omega)
  have k26 : Int32.toNatClampNeg (26 + J 68 1) = 26 + m := kx 26 (by decide)
  have k34 : Int32.toNatClampNeg (34 + J 68 1) = 34 + m := kx 34 (by decide)
  have k10 : Int32.toNatClampNeg (10 + J 68 1) = 10 + m := kx 10 (by decide)
  have k18 : Int32.toNatClampNeg (18 + J 68 1) = 18 + m := kx 18 (by decide)
  have k42 : Int32.toNatClampNeg (42 + J 68 1) = 42 + m := kx 42 (by decide)
  have k50 : Int32.toNatClampNeg (50 + J 68 1) = 50 + m := kx 50 (by decide)
  rw [k26, k34, k10, k18, k42, k50, e2]
  refine hK _ (fun c hc => ?_) ?_
  · rw [uu_h hc, uu_h hc, uu_h hc, uu_h hc, uu_h hc, uu_h hc, uu_h hc]
  · rw [manR_m hm e2]
    funext k
    by_cases c1 : k = 1
    · rw [if_pos c1, c1, uu_e, uu_n (by omega), uu_n (by omega), uu_n (by omega), uu_n (by omega), uu_n (by omega), uu_n (by omega), e2, ← nI_succ]
    rw [if_neg c1, uu_n c1]
    by_cases c2 : k = 50 + m
    · rw [if_pos c2, c2, uu_e]
    rw [if_neg c2, uu_n c2]
    by_cases c3 : k = 42 + m
    · rw [if_pos c3, c3, uu_e]
    rw [if_neg c3, uu_n c3]
    by_cases c4 : k = 18 + m
    · rw [if_pos c4, c4, uu_e]
    rw [if_neg c4, uu_n c4]
    by_cases c5 : k = 10 + m
    · rw [if_pos c5, c5, uu_e]
    rw [if_neg c5, uu_n c5]
    by_cases c6 : k = 34 + m
    · rw [if_pos c6, c6, uu_e]
    rw [if_neg c6, uu_n c6]
    by_cases c7 : k = 26 + m
    · rw [if_pos c7, c7, uu_e]
    rw [if_neg c7, uu_n c7]
def RwM (I J : am_I) (t : Nat → Int32) (z i : Nat) : Prop := (∀ c, c ≠ 66 → c ≠ 68 → J c = I c) ∧ (∀ k, k ≠ 11 → J 66 k = I 66 k) ∧ J 66 11 = nI (i - rwC t z (I 68) i) ∧ J 68 = rwR t z (I 68) i
theorem l198 {I : am_I} {t : Nat → Int32} {z n m : Nat} {E : Int32 → Int32 → am_I → Prop} (hz : z ≤ 400) (hn : n = (z + 2) / 3) (hm : m ≤ 8) (em : I 68 1 = nI m) (ht : ∀ k, k < z → I 75 k = t k) (hE : ∀ J v, RwM I J t z n → E (nI (rwC t z (I 68) n)) v J) : ∀ q i J, i + q = n → RwM I J t z i → lw_198_35 (q + 1) (nI z) (nI (rwC t z (I 68) i)) (nI (3 * i)) J E
  | 0, i, J, h, hJ => by
    have hj : i = n := by omega
    subst hj
    unfold lw_198_35
    rw [if_pos (nI_le (by omega) (by omega))]
    exact hE J _ hJ
  | q + 1, i, J, h, hJ => by
    have ih := l198 hz hn hm em ht hE q (i + 1)
    obtain ⟨k1, k2, k3, k4⟩ := hJ
    have cl := rwC_le t z (I 68) i
    have x1 : nI (3 * i) + 1 = nI (3 * i + 1) := nb_add _ 1
    have x2 : nI (3 * i) + 2 = nI (3 * i + 2) := nb_add _ 2
    have x3 : nI (3 * i) + 3 = nI (3 * (i + 1)) := by
      rw [show 3 * (i + 1) = 3 * i + 3 by omega]
      exact nb_add _ 3
    have eR : rwR t z (I 68) (i + 1) = (if okr (rwR t z (I 68) i) t z i = true then manR (rwR t z (I 68) i) (t (3 * i)) (t (3 * i + 1)) (t (3 * i + 2)) else rwR t z (I 68) i) := rfl
    have eC : rwC t z (I 68) (i + 1) = rwC t z (I 68) i + (if okr (rwR t z (I 68) i) t z i = true then 1 else 0) := rfl
    have no : okr (rwR t z (I 68) i) t z i = false → lw_198_35 (q + 1) (nI z) (nI (rwC t z (I 68) i)) (nI (3 * (i + 1))) (am_u J 66 11 (J 66 11 + 1)) E := by
      intro hb
      rw [hb] at eR eC
      simp only [Bool.false_eq_true, if_false, Nat.add_zero] at eR eC
      rw [eC] at ih
      refine ih _ (by omega) ⟨fun c c0 c1 => by rw [uu_h c0]; exact k1 c c0 c1, fun k hk => by rw [uu_n hk]; exact k2 k hk, ?_, ?_⟩
      · rw [uu_e, k3, eC, ← nI_succ, show i - rwC t z (I 68) i + 1 = i + 1 - rwC t z (I 68) i by omega]
      · rw [eR, uu_h (by decide)]
        exact k4
    unfold lw_198_35
    rw [if_neg (nI_ge (by omega) (by omega)), x1, x2, x3]
    by_cases c0 : z ≤ 3 * i + 2
    · rw [if_pos (nI_le c0 (by omega))]
      refine no ?_
      unfold okr
      rw [decide_eq_false (by omega)]
      rfl
    · rw [if_neg (nI_ge (by omega) (by omega))]
      refine ⟨nb_gd (by omega) (by decide), nb_gd (by omega) (by decide), nb_gd (by omega) (by decide), ?_⟩
      rw [nI_clamp (by omega : 3 * i < 2 ^ 31), nI_clamp (by omega : 3 * i + 1 < 2 ^ 31), nI_clamp (by omega : 3 * i + 2 < 2 ^ 31), k1 75 (by decide) (by decide), ht _ (by omega), ht _ (by omega), ht _ (by omega)]
      obtain ⟨m', h1, h2, h3⟩ := rwR_m (t := t) (z := z) hm em i
      rcases q23 (t (3 * i)) (t (3 * i + 1)) (t (3 * i + 2)) with ⟨a1, a2⟩ | ⟨a1, b1', b2, b3, y, w, a, hy1, hy2, hw, ha1, ha2, t1, t2, t3⟩
      · refine q190n a2 ?_
        refine am_ifp (by decide) (no ?_)
        unfold okr
        rw [a1, decide_eq_false (show ¬ (0 : Int32) = 1 by decide), Bool.false_and, Bool.and_false]
      · by_cases m8 : m' = 8
        · unfold w_190
          rw [c182, d182, e182, if_neg (by rw [b1']; decide), if_neg (by rw [b2]; decide), if_neg (by rw [b3]; decide)]
          refine am_ifp (by rw [k4, h3, m8]; rfl) ?_
          refine am_ifp (by decide) (no ?_)
          unfold okr
          rw [h3, m8, decide_eq_true (show nI 8 = 8 from rfl), Bool.not_true, Bool.and_false, Bool.and_false]
        have m8' : ¬ nI m' = 8 := fun e => m8 ((nb_inj (b := 8) (by omega) (by decide)).mp e)
        have hb : okr (rwR t z (I 68) i) t z i = true := by
          unfold okr
          rw [a1, h3, decide_eq_true (show 3 * i + 2 < z by omega), decide_eq_true rfl, decide_eq_false m8']
          rfl
        rw [hb] at eR eC
        simp only [if_true] at eR eC
        rw [eC] at ih
        rw [t1] at b1' eR
        rw [t2] at b2 eR
        rw [t3] at b3 eR
        rw [t1, t2, t3]
        refine q190 (m := m') (by omega) (by rw [k4]; exact h3) b1' b2 b3 (fun G g1 g2 => ?_)
        refine am_ifn (nI_pos (by omega)) ?_
        rw [← nI_succ]
        refine ih G (by omega) ⟨fun c c0 c1 => by rw [g1 c c1]; exact k1 c c0 c1, fun k hk => by rw [g1 66 (by decide)]; exact k2 k hk, ?_, ?_⟩
        · rw [g1 66 (by decide), k3, eC, show i + 1 - (rwC t z (I 68) i + 1) = i - rwC t z (I 68) i by omega]
        · rw [g2, k4, eR]
theorem o_10 {D : am_P} (hD : FrD D) {N : Nat} {T : Nat → Nat × Nat} {r : Nat → Nat → Option Nat} {I : am_I} {L : am_J} (h : Inv D N T r I L) : op_10 (Inv D) N T r I L := by
  unfold op_10 w_35
  obtain ⟨z, hz, z1, z2, zt⟩ := h.1.2.2.2.2.2.1
  obtain ⟨m, v, hm, hv, e1, e2, e3, hp⟩ := h.1.2.1
  by_cases z0 : z = 0
  · rw [if_pos (by rw [z1, z0]; rfl)]
    refine rf6 ?_
    show w_198 _ _
    unfold w_198
    refine am_ifp (show I 66 13 = 0 by rw [z2, z0]; rfl) ?_
    rw [uu_same (f := am_u (am_u (am_u I 0 12 (-6)) 65 4 (I 65 4 + 1)) 66 0 0) (a := 66) (i := 13) (v := 0) (show I 66 13 = 0 by rw [z2, z0]; rfl)]
    exact tl6 ⟨rfl, inv_r6 hD h⟩
  rw [if_neg (by rw [z1]; exact fun q => z0 ((nb_inj (b := 0) (by omega) (by decide)).mp q)), z1]
  have r0 : RwI (am_u I 0 13 0) (am_u I 0 13 0) (I 15) z 0 := ⟨fun c _ _ _ _ _ _ _ => rfl, fun k _ => rfl, by rw [uu_e]; rfl, fun k _ _ => rfl, h.1.2.1⟩
  refine ⟨(z + 2) / 3 + 1, l35 (I := am_u I 0 13 0) (z := z) (n := (z + 2) / 3) hz rfl (fun J v0 hJ => ?_) ((z + 2) / 3) 0 _ (by omega) r0⟩
  obtain ⟨k1, k2, k3, k4, k5⟩ := hJ
  have k1 : ∀ c, c ≠ 0 → c ≠ 1 → c ≠ 4 → c ≠ 5 → c ≠ 6 → c ≠ 7 → c ≠ 8 → J c = I c := fun c c0 c1 c4 c5 c6 c7 c8 => (k1 c c0 c1 c4 c5 c6 c7 c8).trans (uu_h c0)
  have k4 : ∀ k, k ≠ 9 → k ≠ 10 → J 1 k = I 1 k := k4
  have k3 : J 0 13 = nI ((z + 2) / 3 - rwC (I 15) z (I 68) ((z + 2) / 3)) := k3
  have k5 : PRm (J 1) (J 4) (J 5) (J 6) (J 7) (J 8) (rwR (I 15) z (I 68) ((z + 2) / 3)) := k5
  show w_24 _ _
  unfold w_24 w_16
  show w_198 _ _
  unfold w_198
  have J66 : J 66 = I 66 := k1 66 (by decide) (by decide) (by decide) (by decide) (by decide) (by decide) (by decide)
  have J68 : J 68 = I 68 := k1 68 (by decide) (by decide) (by decide) (by decide) (by decide) (by decide) (by decide)
  have J75 : J 75 = I 75 := k1 75 (by decide) (by decide) (by decide) (by decide) (by decide) (by decide) (by decide)
  have J14 : J 14 = I 14 := k1 14 (by decide) (by decide) (by decide) (by decide) (by decide) (by decide) (by decide)
  refine am_ifn (show ¬ J 66 13 = 0 by rw [J66, z2]; exact fun q => z0 ((nb_inj (b := 0) (by omega) (by decide)).mp q)) ?_
  rw [show am_u (am_u (am_u (am_u J 14 1 0) 29 0 0) 0 12 0) 0 10 0 66 13 = nI z by
    rw [uu_c (by decide), uu_c (by decide), uu_c (by decide), uu_c (by decide), J66, z2]]
  generalize hM : am_u (am_u (am_u (am_u (am_u (am_u (am_u J 14 1 0) 29 0 0) 0 12 0) 0 10 0) 66 0 0) 66 13 0) 66 11 0 = M
  have M68 : M 68 = I 68 := by rw [← hM]; exact J68
  have M75 : M 75 = I 75 := by rw [← hM]; exact J75
  have rM : RwM M M (I 15) z 0 := ⟨fun c _ _ => rfl, fun k _ => rfl, by rw [← hM, uu_e]; rfl, rfl⟩
  have zc : rwC (I 15) z (M 68) 0 = 0 := rfl
  refine ⟨(z + 2) / 3 + 1, l198 (I := M) (t := I 15) (z := z) (n := (z + 2) / 3) hz rfl hm (by rw [M68]; exact e2) (fun k hk => ?_) (fun F v1 hF => ?_) ((z + 2) / 3) 0 M (by omega) rM⟩
  · obtain ⟨b, _, t1, t2⟩ := zt k hk
    rw [M75, t1, t2]
  · obtain ⟨f1, f2, f3, f4⟩ := hF
    rw [M68] at f3 f4 ⊢
    have cl := rwC_le (I 15) z (I 68) ((z + 2) / 3)
    refine st_0 (nI_pos' (by omega)) ⟨rfl, ?_⟩
    obtain ⟨m', h1, h2, h3⟩ := rwR_m (t := I 15) (z := z) hm e2 ((z + 2) / 3)
    have F68 : am_u (am_u F 66 8 0) 66 1 0 68 = rwR (I 15) z (I 68) ((z + 2) / 3) := by
      rw [uu_h (by decide), uu_h (by decide), f4]
    have Fc : ∀ c, c ≠ 66 → c ≠ 68 → am_u (am_u F 66 8 0) 66 1 0 c = M c := fun c c1 c2 => by
      rw [uu_h c1, uu_h c1]
      exact f1 c c1 c2
    have F66 : ∀ k, k ≠ 8 → k ≠ 1 → k ≠ 11 → am_u (am_u F 66 8 0) 66 1 0 66 k = M 66 k := fun k a b c => by
      rw [uu_n b, uu_n a]
      exact f2 k c
    refine inv_row hD h (J := am_u (am_u F 66 8 0) 66 1 0) (m := m) (m' := m') ?_ ?_ ?_ ?_ e2 ?_ h1 h2 ?_ ?_ ?_ ?_ ?_ ?_ ?_ ?_ ?_ ?_ ?_
    · intro c c1 c4 c5 c6 c7 c8 c0 c14 c29 c66 c68
      rw [Fc c c66 c68, ← hM, uu_h c66, uu_h c66, uu_h c66, uu_h c0, uu_h c0, uu_h c29, uu_h c14]
      exact k1 c c0 c1 c4 c5 c6 c7 c8
    · intro i i9 i10
      rw [Fc 1 (by decide) (by decide), ← hM]
      exact k4 i i9 i10
    · rw [F68, Fc 1 (by decide) (by decide), Fc 4 (by decide) (by decide), Fc 5 (by decide) (by decide), Fc 6 (by decide) (by decide), Fc 7 (by decide) (by decide), Fc 8 (by decide) (by decide), ← hM]
      exact k5
    · intro i i1 i2
      rw [F68]
      exact rwR_o hm e2 i1 i2 _
    · rw [F68]
      exact h3
    · rw [Fc 29 (by decide) (by decide), ← hM]
      rfl
    · rw [uu_n (by decide), uu_e]
    · rw [Fc 0 (by decide) (by decide), ← hM]
      rfl
    · rw [Fc 14 (by decide) (by decide), F66 13 (by decide) (by decide) (by decide), ← hM]
      exact ⟨0, by decide, rfl, rfl, fun k hk => absurd hk (by omega)⟩
    · rw [Fc 0 (by decide) (by decide)]
      obtain ⟨a1, a2, a3, a4, a5, a6, a7⟩ := h.1.2.2.2.2.2.2.2.2.1
      refine ⟨?_, a2, a3, a4, a5, a6, ?_⟩
      · rw [← hM, uu_e]
        rfl
      · rw [uu_n (by decide), uu_n (by decide), f3, ← hM]
        exact k3
    · rw [F66 60 (by decide) (by decide) (by decide), ← hM]
      show J 66 60 = I 66 60
      rw [J66]
    · rw [F66 61 (by decide) (by decide) (by decide), ← hM]
      show J 66 61 = I 66 61
      rw [J66]
    · rw [Fc 14 (by decide) (by decide), ← hM]
      show J 14 2 = I 14 2
      rw [J14]
    · rw [F66 18 (by decide) (by decide) (by decide), ← hM]
      show J 66 18 = I 66 18
      rw [J66]
    · rw [F66 56 (by decide) (by decide) (by decide), ← hM]
      show J 66 56 = I 66 56
      rw [J66]
    · rw [F66 20 (by decide) (by decide) (by decide), ← hM]
      show J 66 20 = I 66 20
      rw [J66]
