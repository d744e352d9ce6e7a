/-! tokens: the reference's next token -/
def wvL (b : Nat → Nat) (s j : Nat) : Int64 := if j ≤ 10 then lN (wvn b s j) else -1
def frWx (I G : am_I) (L H : am_J) : Prop := (∀ c, c ≠ 66 → G c = I c) ∧ (∀ k, k ≠ 15 → G 66 k = I 66 k) ∧ (∀ c, c ≠ 66 → H c = L c) ∧ ∀ k, k ≠ 17 → H 66 k = L 66 k
theorem frWx_u {I G : am_I} {L H : am_J} {x : Int32} {y : Int64} (h : frWx I G L H) : frWx I (am_u G 66 15 x) L (am_u H 66 17 y) := by
  refine ⟨fun c hc => ?_, fun k hk => ?_, fun c hc => ?_, fun k hk => ?_⟩
  · rw [uu_h hc]; exact h.1 c hc
  · rw [uu_n hk]; exact h.2.1 k hk
  · rw [uu_h hc]; exact h.2.2.1 c hc
  · rw [uu_n hk]; exact h.2.2.2 k hk
theorem lN_ad (a c : Nat) : lN a + lN c = lN (a + c) := (Int64.ofNat_add a c).symm
theorem lN_sb {a c : Nat} (h : c ≤ a) : lN a - lN c = lN (a - c) := (Int64.ofNat_sub a c h).symm
theorem l207w {I : am_I} {L : am_J} {b : Nat → Nat} {z s : Nat} {E : am_I → am_J → Prop} (h : BYr I b z) (e16 : I 66 16 = 1) (e14 : I 66 14 = nI s) : ∀ k j G H, s + j + k = z → frWx I G L H → G 66 15 = nI (s + j) → H 66 17 = wvL b s j → (∀ G' H', frWx I G' L H' → G' 66 15 = nI (rnz (fun i => tL (b i)) z (s + j)) → H' 66 17 = wvL b s (rnz (fun i => tL (b i)) z (s + j) - s) → E G' H') → lw_207_149 (k + 1) G H E
  | 0, j, G, H, hz, g, e, hv, hE => by
    have e1 : s + j = z := by omega
    have z4 := h.1
    unfold lw_207_149
    rw [g.2.1 16 (by decide), e16, if_pos rfl, e, g.2.1 13 (by decide), h.2.1, e1, if_pos (nI_le (Nat.le_refl _) (by omega))]
    rw [e1, rnz_z] at hE
    refine hE G H g (by rw [e, e1]) ?_
    rw [hv, show z - s = j by omega]
  | k + 1, j, G, H, hz, g, e, hv, hE => by
    have z4 := h.1
    obtain ⟨b1', b2⟩ := h.2.2 (s + j) (by omega)
    unfold lw_207_149
    rw [g.2.1 16 (by decide), e16, if_pos rfl, e, g.2.1 13 (by decide), h.2.1, if_neg (nI_ge (by omega) (by omega))]
    refine ⟨nb_gd (by omega) (by decide), ?_⟩
    rw [nI_clamp (by omega : s + j < 2 ^ 31), g.1 75 (by decide), b2, f208 _ b1']
    cases hf : tL (b (s + j)) with
    | false =>
      rw [rnz_n (f := fun i => tL (b i)) (by omega) hf] at hE
      refine am_ifp rfl (hE G H g e ?_)
      rw [hv, show s + j - s = j by omega]
    | true =>
      have d2 : 97 ≤ b (s + j) ∧ b (s + j) ≤ 122 := of_decide_eq_true hf
      rw [rnz_s (f := fun i => tL (b i)) (by omega) hf] at hE
      refine am_ifn (show ¬ b1 true = 0 by decide) ?_
      rw [g.2.1 14 (by decide), e14, nI_sub (by omega), show s + j - s = j by omega, ← nI_succ]
      by_cases c : 10 ≤ j
      · refine am_ifp (show (10 : Int32) ≤ nI j from nI_le (a := 10) c (by omega)) ?_
        refine l207w h e16 e14 k (j + 1) _ _ (by omega) (frWx_u g) uu_e ?_ hE
        rw [uu_e]
        unfold wvL
        rw [if_neg (by omega)]
      · refine am_ifn (show ¬ (10 : Int32) ≤ nI j from nI_ge (b := 10) (by omega) (by decide)) ⟨fun q => q.elim (fun z => nI_pos (by omega) z) (fun z => by omega), ?_⟩
        refine l207w h e16 e14 k (j + 1) _ _ (by omega) (frWx_u g) uu_e ?_ hE
        rw [uu_e, hv]
        unfold wvL
        rw [if_pos (by omega), if_pos (by omega), nI_l (by omega), show (32 : Int64) = lN 32 from rfl, show (96 : Int64) = lN 96 from rfl, lN_mul, lN_ad, lN_sb (by omega)]
        show lN (wvn b s j * 32 + b (s + j) - 96) = lN (wvn b s j * 32 + (b (s + j) - 96))
        rw [Nat.add_sub_assoc (by omega)]
theorem l207d {I : am_I} {L : am_J} {b : Nat → Nat} {z s : Nat} {E : am_I → am_J → Prop} (h : BYr I b z) (e16 : I 66 16 = 2) : ∀ k j G H, s + j + k = z → frWx I G L H → G 66 15 = nI (s + j) → H 66 17 = lN (nmr b s j) → (∀ G' H', frWx I G' L H' → G' 66 15 = nI (rnz (fun i => tD (b i)) z (s + j)) → H' 66 17 = lN (nmr b s (rnz (fun i => tD (b i)) z (s + j) - s)) → E G' H') → lw_207_243 (k + 1) G H E
  | 0, j, G, H, hz, g, e, hv, hE => by
    have e1 : s + j = z := by omega
    have z4 := h.1
    unfold lw_207_243
    rw [g.2.1 16 (by decide), e16, if_pos rfl, e, g.2.1 13 (by decide), h.2.1, e1, if_pos (nI_le (Nat.le_refl _) (by omega))]
    rw [e1, rnz_z] at hE
    refine hE G H g (by rw [e, e1]) ?_
    rw [hv, show z - s = j by omega]
  | k + 1, j, G, H, hz, g, e, hv, hE => by
    have z4 := h.1
    obtain ⟨b1', b2⟩ := h.2.2 (s + j) (by omega)
    unfold lw_207_243
    rw [g.2.1 16 (by decide), e16, if_pos rfl, e, g.2.1 13 (by decide), h.2.1, if_neg (nI_ge (by omega) (by omega))]
    refine ⟨nb_gd (by omega) (by decide), ?_⟩
    rw [nI_clamp (by omega : s + j < 2 ^ 31), g.1 75 (by decide), b2, f209 _ b1']
    cases hf : tD (b (s + j)) with
    | false =>
      rw [rnz_n (f := fun i => tD (b i)) (by omega) hf] at hE
      refine am_ifp rfl (hE G H g e ?_)
      rw [hv, show s + j - s = j by omega]
    | true =>
      have d2 : 48 ≤ b (s + j) ∧ b (s + j) ≤ 57 := of_decide_eq_true hf
      have vl : nmr b s j ≤ 10000256 := nmr_le j (fun i hi => (h.2.2 (s + i) (by omega)).1)
      rw [rnz_s (f := fun i => tD (b i)) (by omega) hf] at hE
      refine am_ifn (show ¬ b1 true = 0 by decide) ?_
      rw [← nI_succ, hv]
      have ev : (lN (nmr b s j)).toInt = (nmr b s j : Int) := pf_lI (by omega)
      have en : nmr b s (j + 1) = (if nmr b s j ≤ 1000000 then nmr b s j * 10 + (b (s + j) - 48) else nmr b s j) := rfl
      by_cases c : nmr b s j ≤ 1000000
      · refine am_ifp ((ile0 _).mpr (fun q => by have := (lc_gt' ev (show Int64.toInt 1000000 = 1000000 from rfl)).mp q; omega)) ⟨fun q => q.elim (fun z => nI_pos (by omega) z) (fun z => by omega), ?_⟩
        refine l207d h e16 k (j + 1) _ _ (by omega) (frWx_u g) uu_e ?_ hE
        rw [uu_e, en, if_pos c, nI_l (by omega), show (10 : Int64) = lN 10 from rfl, show (48 : Int64) = lN 48 from rfl, lN_mul, lN_ad, lN_sb (by omega), Nat.add_sub_assoc (by omega)]
      · refine am_ifn (fun q => (ile0 _).mp q ((lc_gt' ev (show Int64.toInt 1000000 = 1000000 from rfl)).mpr (by omega))) ?_
        refine l207d h e16 k (j + 1) _ _ (by omega) (frWx_u g) uu_e ?_ hE
        rw [uu_e, en, if_neg c]
theorem l207x {G : am_I} {H : am_J} {E : am_I → am_J → Prop} (h : ¬ G 66 16 = 1) (hE : E G H) : lw_207_149 1 G H E := by
  unfold lw_207_149
  rw [if_neg h]
  exact hE
theorem l207y {G : am_I} {H : am_J} {E : am_I → am_J → Prop} (h : ¬ G 66 16 = 2) (hE : E G H) : lw_207_243 1 G H E := by
  unfold lw_207_243
  rw [if_neg h]
  exact hE
def kdT (c : Nat) : Nat := if c < 1000000 then 2 else if c < 2000000 then 1 else if c < 3000000 then 3 else 0
/-- the class's token c, the reference's value v -/
def TKV (c : Nat) (v : Int64) : Prop := c ≤ 3000000 ∧ (c < 1000000 → ∃ m, m ≤ 10000256 ∧ v = lN m ∧ c = min 100000 m) ∧ (1000000 ≤ c → c < 2000000 → c ≤ 1000032 ∧ ∀ j, j < 32 → (v = lN (WC.getD j 0) ↔ c = 1000000 + j)) ∧ (2000000 ≤ c → c < 3000000 → c < 2000256 ∧ v = lN (c - 2000000))
def frTk (I G : am_I) (L H : am_J) : Prop := (∀ c, c ≠ 66 → G c = I c) ∧ (∀ k, k ≠ 14 → k ≠ 15 → k ≠ 16 → G 66 k = I 66 k) ∧ (∀ c, c ≠ 66 → H c = L c) ∧ ∀ k, k ≠ 17 → H 66 k = L 66 k
theorem bhd_w {b : Nat → Nat} {z p : Nat} (hp : p < z) (hl : tL (b p) = true) : bhd b z p = rnz (fun i => tL (b i)) z p ∧ ∀ i, p ≤ i → i < bhd b z p → tL (b i) = true := by
  have e : bhd b z p = rnz (fun i => tL (b i)) z p := by
    unfold bhd
    rw [if_pos hl, rnz_s (f := fun i => tL (b i)) hp hl]
  refine ⟨e, fun i i1 i2 => ?_⟩
  rw [e] at i2
  exact rnz_all (f := fun i => tL (b i)) (z - p) p (by omega) i i1 i2
theorem bhd_dd {b : Nat → Nat} {z p : Nat} (hp : p < z) (hl : tL (b p) = false) (hd : tD (b p) = true) : bhd b z p = rnz (fun i => tD (b i)) z p := by
  unfold bhd
  rw [if_neg (by rw [hl]; decide), if_pos hd, rnz_s (f := fun i => tD (b i)) hp hd]
theorem q207 {I : am_I} {L : am_J} {b : Nat → Nat} {z p : Nat} {K : am_I → am_J → Prop} (h : BYr I b z) (hp : p ≤ z) (e15 : I 66 15 = nI p)
    (k0 : rnz (fun i => tS (b i)) z p = z → ∀ G H, frTk I G L H → G 66 14 = nI z → G 66 15 = nI z → G 66 16 = 0 → K G H)
    (k1 : ∀ s, s = rnz (fun i => tS (b i)) z p → s < z → ∀ G H, frTk I G L H → G 66 14 = nI s → G 66 15 = nI (bhd b z s) → G 66 16 = nI (kdT (tkc b s (bhd b z s))) → TKV (tkc b s (bhd b z s)) (H 66 17) → tkc b s (bhd b z s) < 3000000 → K G H) : w_207 I L K := by
  have z4 := h.1
  unfold w_207
  have h' : BYr (am_u I 66 14 (I 66 15)) b z := ⟨z4, by rw [uu_n (by decide)]; exact h.2.1, fun k hk => by rw [uu_c (by decide)]; exact h.2.2 k hk⟩
  refine ⟨z - p + 1, l207s h' (z - p) p _ (by omega) ⟨fun _ _ => rfl, fun _ _ => rfl⟩ (by rw [uu_e, e15]) (fun J jf j14 => ?_)⟩
  have j1 : ∀ c, c ≠ 66 → J c = I c := fun c hc => by rw [jf.1 c hc, uu_h hc]
  have j2 : ∀ k, k ≠ 14 → J 66 k = I 66 k := fun k hk => by rw [jf.2 k hk, uu_n hk]
  obtain ⟨s1, s2⟩ := rnz_le (fun i => tS (b i)) hp
  generalize hs : rnz (fun i => tS (b i)) z p = s at *
  have jB : BYr J b z := ⟨z4, by rw [j2 13 (by decide)]; exact h.2.1, fun k hk => by rw [j1 75 (by decide)]; exact h.2.2 k hk⟩
  unfold wb_207_46
  rw [j14, jB.2.1]
  by_cases c : s = z
  · refine am_ifp (by rw [c]) ?_
    unfold wb_207_114
    refine am_ifn (by decide) ⟨1, l207x (by rw [uu_e]; decide) ⟨1, l207y (by rw [uu_e]; decide) ?_⟩⟩
    refine k0 c _ _ ⟨fun c hc => ?_, fun k a1 a2 a3 => ?_, fun c hc => uu_h hc, fun k hk => uu_n hk⟩ ?_ ?_ uu_e
    · rw [uu_h hc, uu_h hc]; exact j1 c hc
    · rw [uu_n a3, uu_n a2]; exact j2 k a1
    · rw [uu_n (by decide), uu_n (by decide), j14, c]
    · rw [uu_n (by decide), uu_e, c]
  · have sz : s < z := by omega
    obtain ⟨b1', b2⟩ := jB.2.2 s sz
    obtain ⟨t1, t2⟩ := bhd_le b sz
    refine am_ifn (fun q => c ((nb_inj (by omega) (by omega)).mp q)) ⟨nb_gd (by omega) (by decide), ?_⟩
    rw [nI_clamp (by omega : s < 2 ^ 31), b2, f208 _ b1', f209 _ b1']
    have kk := k1 s rfl sz
    unfold tkc at kk
    cases hl : tL (b s) with
    | true =>
      obtain ⟨w1, w2⟩ := bhd_w sz hl
      have hw : ∀ i, i < bhd b z s - s → 97 ≤ b (s + i) ∧ b (s + i) ≤ 122 := fun i hi => of_decide_eq_true (w2 (s + i) (by omega) (by omega))
      obtain ⟨v1, v2⟩ := wof_v hw
      rw [if_pos hl] at kk
      refine am_ifn (show ¬ b1 true = 0 by decide) ?_
      unfold wb_207_114
      refine am_ifn (by decide) ⟨z - s + 1, ?_⟩
      have jB2 : BYr (am_u (am_u J 66 15 (nI s)) 66 16 1) b z := ⟨z4, by rw [uu_n (by decide), uu_n (by decide)]; exact jB.2.1, fun k hk => by rw [uu_c (by decide), uu_c (by decide)]; exact jB.2.2 k hk⟩
      refine l207w (s := s) jB2 uu_e (by rw [uu_n (by decide), uu_n (by decide)]; exact j14) (z - s) 0 _ _ (by omega) ⟨fun _ _ => rfl, fun _ _ => rfl, fun _ _ => rfl, fun _ _ => rfl⟩ (by rw [uu_n (by decide), uu_e]; rfl) (by rw [uu_e]; rfl) (fun G H gf g15 g17 => ⟨1, l207y (by rw [gf.2.1 16 (by decide), uu_e]; decide) ?_⟩)
      rw [Nat.add_zero, ← w1] at g15 g17
      refine kk G H ⟨fun c hc => ?_, fun k a1 a2 a3 => ?_, fun c hc => ?_, fun k hk => ?_⟩ ?_ g15 ?_ ⟨by omega, fun q => absurd q (by omega), fun _ _ => ⟨by omega, fun j hj => ?_⟩, fun q => absurd q (by omega)⟩ (by omega)
      · rw [gf.1 c hc, uu_h hc, uu_h hc]; exact j1 c hc
      · rw [gf.2.1 k a2, uu_n a3, uu_n a2]; exact j2 k a1
      · rw [gf.2.2.1 c hc, uu_h hc]
      · rw [gf.2.2.2 k hk, uu_n hk]
      · rw [gf.2.1 14 (by decide), uu_n (by decide), uu_n (by decide)]; exact j14
      · rw [gf.2.1 16 (by decide), uu_e]
        unfold kdT
        rw [if_neg (by omega), if_pos (by omega)]
        rfl
      · rw [g17]
        unfold wvL
        have lj := WC_lt j hj
        by_cases y : bhd b z s - s ≤ 10
        · have vb : wvn b s (bhd b z s - s) < 2 ^ 62 := wvn_lt hw y
          rw [if_pos y, fb_lN_inj (by omega) (by omega), ← v2 j hj]
          omega
        · rw [if_neg y]
          constructor
          · intro q
            have q1 := congrArg Int64.toInt q
            rw [pf_lI (by omega), show Int64.toInt (-1) = -1 from rfl] at q1
            omega
          · intro q
            exact absurd ((v2 j hj).mp (by omega)) (wvn_big hw (by omega) j hj)
    | false =>
      rw [if_neg (by rw [hl]; decide)] at kk
      refine am_ifp rfl ⟨fun q => ?_, ?_⟩
      · rcases q with q | q
        · exact absurd q (nI_pos (by omega))
        · omega
      · cases hd : tD (b s) with
        | true =>
          have w1 := bhd_dd sz hl hd
          rw [if_pos hd] at kk
          refine am_ifn (show ¬ b1 true = 0 by decide) ?_
          unfold wb_207_114
          refine am_ifn (by decide) ⟨1, l207x (by rw [uu_e]; decide) ⟨z - s + 1, ?_⟩⟩
          have jB2 : BYr (am_u (am_u J 66 15 (nI s)) 66 16 2) b z := ⟨z4, by rw [uu_n (by decide), uu_n (by decide)]; exact jB.2.1, fun k hk => by rw [uu_c (by decide), uu_c (by decide)]; exact jB.2.2 k hk⟩
          refine l207d (s := s) jB2 uu_e (z - s) 0 _ _ (by omega) ⟨fun _ _ => rfl, fun _ _ => rfl, fun _ _ => rfl, fun _ _ => rfl⟩ (by rw [uu_n (by decide), uu_e]; rfl) (by rw [uu_e]; rfl) (fun G H gf g15 g17 => ?_)
          rw [Nat.add_zero, ← w1] at g15 g17
          have nl : nmr b s (bhd b z s - s) ≤ 10000256 := nmr_le _ (fun i hi => (h.2.2 (s + i) (by omega)).1)
          have nc := nmc_nmr b s (bhd b z s - s)
          have n1 := nmc_le b s (bhd b z s - s)
          refine kk G H ⟨fun c hc => ?_, fun k a1 a2 a3 => ?_, fun c hc => ?_, fun k hk => ?_⟩ ?_ g15 ?_ ⟨by omega, fun _ => ⟨_, nl, g17, nc⟩, fun q => absurd q (by omega), fun q => absurd q (by omega)⟩ (by omega)
          · rw [gf.1 c hc, uu_h hc, uu_h hc]; exact j1 c hc
          · rw [gf.2.1 k a2, uu_n a3, uu_n a2]; exact j2 k a1
          · rw [gf.2.2.1 c hc, uu_h hc]
          · rw [gf.2.2.2 k hk, uu_n hk]
          · rw [gf.2.1 14 (by decide), uu_n (by decide), uu_n (by decide)]; exact j14
          · rw [gf.2.1 16 (by decide), uu_e]
            unfold kdT
            rw [if_pos (by omega)]
            rfl
        | false =>
          rw [if_neg (by rw [hd]; decide)] at kk
          have be : bhd b z s = s + 1 := by
            unfold bhd
            rw [if_neg (by rw [hl]; decide), if_neg (by rw [hd]; decide)]
          refine am_ifp rfl ?_
          unfold wb_207_114
          refine am_ifp rfl ⟨?_, 1, l207x (by rw [uu_n (by decide), uu_e]; decide) ⟨1, l207y (by rw [uu_n (by decide), uu_e]; decide) ?_⟩⟩
          · rw [uu_n (by decide), j14]
            exact nb_gd (by omega) (by decide)
          · refine kk _ _ ⟨fun c hc => ?_, fun k a1 a2 a3 => ?_, fun c hc => ?_, fun k hk => ?_⟩ ?_ ?_ ?_ ⟨by omega, fun q => absurd q (by omega), fun q q2 => absurd q2 (by omega), fun _ _ => ⟨by omega, ?_⟩⟩ (by omega)
            · rw [uu_h hc, uu_h hc, uu_h hc]; exact j1 c hc
            · rw [uu_n a2, uu_n a3, uu_n a2]; exact j2 k a1
            · rw [uu_h hc, uu_h hc]
            · rw [uu_n hk, uu_n hk]
            · rw [uu_n (by decide), uu_n (by decide), uu_n (by decide)]; exact j14
            · rw [uu_e, uu_e, be]; exact (nI_succ s).symm
            · rw [uu_n (by decide), uu_e]
              unfold kdT
              rw [if_neg (by omega), if_neg (by omega), if_pos (by omega)]
              rfl
            · rw [uu_e, uu_c (by decide), uu_n (by decide), j14, nI_clamp (by omega), b2, nI_l (by omega)]
              exact congrArg lN (by omega)
