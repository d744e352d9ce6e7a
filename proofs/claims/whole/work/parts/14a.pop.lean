/-! how many bits; tally -/
def pcn (g : Nat) : Nat → Nat
  | 0 => 0
  | k + 1 => pcn g k + bi g k
def pc (g : Nat) : Nat := pcn g 12
theorem pcn_le (g : Nat) : ∀ k, pcn g k ≤ k
  | 0 => Nat.le_refl 0
  | k + 1 => by
    have h := pcn_le g k
    have h2 := bi_lt g k
    show pcn g k + bi g k ≤ k + 1
    omega
theorem pc_le (g : Nat) : pc g ≤ 12 := pcn_le g 12
def pck (g : Nat) : Bool := decide (f_111 (nI g) = nI (pc g))
theorem pck_all : ∀ a, a < 64 → ∀ b, b < 64 → pck (64 * a + b) = true := by decide +kernel
theorem q111 {g : Nat} (hg : g < 4096) : f_111 (nI g) = nI (pc g) := by
  have h := pck_all (g / 64) (by omega) (g % 64) (by omega)
  rw [show 64 * (g / 64) + g % 64 = g by omega] at h
  exact of_decide_eq_true h
theorem l236 {g : Nat} (hg : g < 2 ^ 31) {E : Int32 → Int32 → Prop} (hE : E (nI (pcn g 12)) (nI 12)) : ∀ k j, j + k = 12 → lw_236_4 (k + 1) (nI g) (nI (pcn g j)) (nI j) E
  | 0, j, h => by
    have hj : j = 12 := by omega
    subst hj
    unfold lw_236_4
    rw [if_pos (show (12 : Int32) ≤ nI 12 from nI_le (a := 12) (Nat.le_refl _) (by decide))]
    exact hE
  | k + 1, j, h => by
    have ih := l236 hg hE k (j + 1) (by omega)
    unfold lw_236_4
    rw [if_neg (show ¬ (12 : Int32) ≤ nI j from nI_ge (b := 12) (by omega) (by decide))]
    have e : ((nI g) >>> (nI j &&& 31)) &&& 1 = nI (bi g j) := q20 hg (by omega)
    rw [e, nb_add, ← nI_succ]
    exact ih
theorem q236 {g : Nat} (hg : g < 2 ^ 31) {K : Int32 → Prop} (hK : K (nI (pc g))) : w_236 (nI g) K := by
  unfold w_236
  exact ⟨13, l236 (E := fun o1 o2 => K o1) hg hK 12 0 (by omega)⟩
theorem q153 {I : am_I} {m : Nat} (hm : m ≤ 8) (e : I 1 10 = nI m) : f_153 I = nI (2 ^ m - 1) := by
  unfold f_153
  rw [e, q1s m (by omega)]
  exact nb_sub Nat.one_le_two_pow
theorem q1sL : ∀ m, m < 9 → ((1 : Int64) <<< ((nI m).toInt64 &&& 63)) - 1 = (nI (2 ^ m - 1)).toInt64 := by decide +kernel
theorem inv_cnt {D : am_P} (hD : FrD D) {N : Nat} {T : Nat → Nat × Nat} {r : Nat → Nat → Option Nat} {I : am_I} {L : am_J} (h : Inv D N T r I L) {c m g i : Nat} (hc : c < 8) (hm : m ≤ 8) (e1 : I 1 13 = nI c) (e2 : I 68 2 = nI c) (e3 : I 68 1 = nI m) (hg : g < 2 ^ m) (hi : i ≤ 8) : Inv D N T r (am_u (am_u (am_u (am_u (am_u (am_u (am_u (am_u (am_u (am_u I 9 c (nI g)) 10 c (nI i)) 1 13 (nI (c + 1))) 0 12 0) 0 10 0) 66 0 0) 68 (94 + 2 * c) (nI g)) 68 (95 + 2 * c) (nI i)) 68 2 (nI (c + 1))) 66 1 0) L := by
  obtain ⟨⟨h1, h2, h3, h4, h5, h6, h7, h8, h9, h10⟩, hdd⟩ := h
  have hR : ∀ j, j ≠ 94 + 2 * c → j ≠ 95 + 2 * c → j ≠ 2 → am_u (am_u (am_u I 68 (94 + 2 * c) (nI g)) 68 (95 + 2 * c) (nI i)) 68 2 (nI (c + 1)) 68 j = I 68 j := fun j g1 g2 g3 => by rw [uu_n g3, uu_n g2, uu_n g1]
  refine ⟨⟨PRd_cg h1 rfl rfl (fun _ _ => rfl) (fun _ _ => rfl) (hR 0 (by omega) (by omega) (by omega)) (fun j g1 g2 => hR j (by omega) (by omega) (by omega)), PRm_cg h2 rfl rfl (hR 1 (by omega) (by omega) (by omega)) (fun j g1 g2 => hR j (by omega) (by omega) (by omega)), ?_, PRl_cg h4 rfl rfl (hR 3 (by omega) (by omega) (by omega)) (hR 4 (by omega) (by omega) (by omega)), PRt_cg h5 rfl (fun j g1 g2 => hR j (by omega) (by omega) (by omega)), h6, UNr_cg h7 (hR 1 (by omega) (by omega) (by omega)) (fun j g1 g2 => hR j (by omega) (by omega) (by omega)), h8, MSr_0 h9 rfl rfl rfl rfl, h10⟩, hD _ _ _ I _ _ ⟨fun a ha => ?_, rfl, fun j hj => hR j (by omega) (by omega) (by omega), rfl, rfl, Or.inl rfl⟩ hdd⟩
  · obtain ⟨c', m', hc', hm', b1, b2, b3, b4⟩ := h3
    have ec : c' = c := by
      rw [e1] at b1
      exact ((nb_inj (by omega) (by omega)).mp b1).symm
    have em : m' = m := by
      rw [e3] at b3
      exact ((nb_inj (by omega) (by omega)).mp b3).symm
    subst ec em
    refine ⟨c' + 1, m', by omega, hm, rfl, rfl, (hR 1 (by omega) (by omega) (by omega)).trans e3, fun k hk => ?_⟩
    by_cases e : k = c'
    · subst e
      refine ⟨g, i, hg, hi, uu_e (f := I) (a := 9) (i := k) (v := nI g), uu_e (f := I) (a := 10) (i := k) (v := nI i), ?_, ?_⟩
      · show am_u (am_u (am_u I 68 (94 + 2 * k) (nI g)) 68 (95 + 2 * k) (nI i)) 68 2 (nI (k + 1)) 68 (94 + 2 * k) = nI g
        rw [uu_n (by omega), uu_n (by omega), uu_e]
      · show am_u (am_u (am_u I 68 (94 + 2 * k) (nI g)) 68 (95 + 2 * k) (nI i)) 68 2 (nI (k + 1)) 68 (95 + 2 * k) = nI i
        rw [uu_n (by omega), uu_e]
    · obtain ⟨g', i', hg', hi', c1, c2, c3, c4⟩ := b4 k (by omega)
      exact ⟨g', i', hg', hi', (show am_u I 9 c' (nI g) 9 k = I 9 k from uu_n e).trans c1, (show am_u I 10 c' (nI i) 10 k = I 10 k from uu_n e).trans c2, (hR _ (by omega) (by omega) (by omega)).trans c3, (hR _ (by omega) (by omega) (by omega)).trans c4⟩
  · repeat rw [uu_h (by omega)]
theorem o_30 {D : am_P} (hD : FrD D) {N : Nat} {T : Nat → Nat × Nat} {r : Nat → Nat → Option Nat} {I : am_I} {L : am_J} (h : Inv D N T r I L) (x1 x2 : Int32) : op_30 x1 x2 (Inv D) N T r I L := by
  unfold op_30 w_152
  obtain ⟨c, m, hc, hm, e1, e2, e3, hp⟩ := h.1.2.2.1
  obtain ⟨m', v, hm', hv, a1, a2, a3, hpm⟩ := h.1.2.1
  have em : m' = m := by
    rw [e3] at a2
    exact ((nb_inj (by omega) (by omega)).mp a2).symm
  subst em
  have p2 : 2 ^ m' ≤ 256 := Nat.pow_le_pow_right (n := 2) (j := 8) (by decide) hm
  have p1 : 1 ≤ 2 ^ m' := Nat.one_le_two_pow
  rw [q153 hm a1]
  have eM : ∀ y : Int32, f_182 y.toInt64 0 (((1 : Int64) <<< ((I 68 1).toInt64 &&& 63)) - 1) = f_13 y 0 (nI (2 ^ m' - 1)) := fun y => by
    rw [e3, q1sL m' (by omega)]
    exact q182 y 0 _
  rcases q13 x1 0 (2 ^ m' - 1) (by decide) (by omega) with ⟨b1, _⟩ | ⟨b1, g, _, hg, rfl⟩
  · have b1 : f_13 x1 0 (nI (2 ^ m' - 1)) = 0 := b1
    rw [if_pos b1]
    refine rf1 ?_
    show w_281 _ _ _ _
    unfold w_281
    refine am_ifp ((eM x1).trans b1) ?_
    exact tl1 ⟨rfl, inv_r1 hD h⟩
  have b1 : ¬ f_13 (nI g) 0 (nI (2 ^ m' - 1)) = 0 := by
    rw [show f_13 (nI g) 0 (nI (2 ^ m' - 1)) = 1 from b1]
    decide
  rw [if_neg b1, q111 (by omega)]
  have pl := pc_le g
  have eN : f_182 x2.toInt64 0 (nI (pc g)).toInt64 = f_13 x2 0 (nI (pc g)) := q182 x2 0 _
  rcases q13 x2 0 (pc g) (by decide) (by omega) with ⟨d1, _⟩ | ⟨d1, i, _, hi, rfl⟩
  · have d1 : f_13 x2 0 (nI (pc g)) = 0 := d1
    rw [if_pos d1]
    refine rf1 ?_
    show w_281 _ _ _ _
    unfold w_281
    refine am_ifn (fun q => b1 ((eM (nI g)).symm.trans q)) ?_
    refine q236 (by omega) ?_
    refine am_ifp (eN.trans d1) ?_
    exact tl1 ⟨rfl, inv_r1 hD h⟩
  have d1 : ¬ f_13 (nI i) 0 (nI (pc g)) = 0 := by
    rw [show f_13 (nI i) 0 (nI (pc g)) = 1 from d1]
    decide
  rw [if_neg d1]
  by_cases c8 : c = 8
  · refine am_ifn (show ¬ I 1 13 < 8 by rw [e1, c8]; decide) ?_
    refine rf5 ?_
    show w_281 _ _ _ _
    unfold w_281
    refine am_ifn (fun q => b1 ((eM (nI g)).symm.trans q)) ?_
    refine q236 (by omega) ?_
    refine am_ifn (fun q => d1 (eN.symm.trans q)) ?_
    refine am_ifp (show I 68 2 = 8 by rw [e2, c8]; rfl) ?_
    exact tl5 ⟨rfl, inv_r5 hD h⟩
  have hc' : c < 8 := by omega
  have l8 : I 1 13 < 8 := by
    rw [e1]
    exact (nb_lt (b := 8) (by omega) (by decide)).mpr hc'
  refine am_ifp l8 ?_
  unfold w_154 w_16
  refine am_ifp l8 ?_
  have g8 : ¬ (I 1 13 < 0 ∨ 8 ≤ Int32.toNatClampNeg (I 1 13)) := nb_gdx e1 hc' (by decide)
  refine ⟨g8, g8, ?_⟩
  show w_281 _ _ _ _
  unfold w_281
  refine am_ifn (fun q => b1 ((eM (nI g)).symm.trans q)) ?_
  refine q236 (by omega) ?_
  refine am_ifn (fun q => d1 (eN.symm.trans q)) ?_
  refine am_ifn (show ¬ I 68 2 = 8 by rw [e2]; exact fun q => c8 ((nb_inj (b := 8) (by omega) (by decide)).mp q)) ?_
  have x0 : (94 : Int32) + 2 * I 68 2 = nI (94 + 2 * c) := by
    rw [e2, show (94 : Int32) = nI 94 from rfl, show (2 : Int32) = nI 2 from rfl, nb_mul, nb_add]
  have x1' : (94 : Int32) + 2 * I 68 2 + 1 = nI (95 + 2 * c) := by
    rw [x0, show (1 : Int32) = nI 1 from rfl, nb_add, show 94 + 2 * c + 1 = 95 + 2 * c by omega]
  have k0 : Int32.toNatClampNeg ((94 : Int32) + 2 * I 68 2) = 94 + 2 * c := nb_cl x0 (by omega)
  have k1 : Int32.toNatClampNeg ((94 : Int32) + 2 * I 68 2 + 1) = 95 + 2 * c := nb_cl x1' (by omega)
  have kc : Int32.toNatClampNeg (I 1 13) = c := nb_cl e1 (by omega)
  refine ⟨(nb_gdx x0 (by omega) (by decide) : ¬ ((94 : Int32) + 2 * I 68 2 < 0 ∨ 5510 ≤ Int32.toNatClampNeg (94 + 2 * I 68 2))), (nb_gdx x1' (by omega) (by decide) : ¬ ((94 : Int32) + 2 * I 68 2 + 1 < 0 ∨ 5510 ≤ Int32.toNatClampNeg (94 + 2 * I 68 2 + 1))), ?_⟩
  have s1 : nI c + 1 = nI (c + 1) := nb_add c 1
  refine tl0 (show 0 ≤ I 68 2 + 1 by rw [e2, s1]; exact nI_pos' (by omega)) ?_
  refine ⟨(show I 1 13 + 1 = I 68 2 + 1 by rw [e1, e2]), ?_⟩
  have i8 : i ≤ 8 := by
    have : pcn g 12 ≤ 8 := by
      have z8 : bi g 8 = 0 := bi_hi (n := 8) (by omega) (by decide)
      have z9 : bi g 9 = 0 := bi_hi (n := 8) (by omega) (by decide)
      have z10 : bi g 10 = 0 := bi_hi (n := 8) (by omega) (by decide)
      have z11 : bi g 11 = 0 := bi_hi (n := 8) (by omega) (by decide)
      have := pcn_le g 8
      show pcn g 8 + bi g 8 + bi g 9 + bi g 10 + bi g 11 ≤ 8
      omega
    exact Nat.le_trans hi this
  suffices hs : ∀ p q s : Nat, ∀ y y2 : Int32, p = c → q = 94 + 2 * c → s = 95 + 2 * c → y = nI (c + 1) → y2 = nI (c + 1) → Inv D N T r (am_u (am_u (am_u (am_u (am_u (am_u (am_u (am_u (am_u (am_u I 9 p (nI g)) 10 p (nI i)) 1 13 y) 0 12 0) 0 10 0) 66 0 0) 68 q (nI g)) 68 s (nI i)) 68 2 y2) 66 1 0) L by
    refine hs _ _ _ _ _ kc k0 k1 (by rw [e1, s1]) ?_
    show (am_u (am_u I 68 (Int32.toNatClampNeg ((94 : Int32) + 2 * I 68 2)) (nI g)) 68 (Int32.toNatClampNeg ((94 : Int32) + 2 * I 68 2 + 1)) (nI i)) 68 2 + 1 = nI (c + 1)
    rw [k0, k1, uu_n (by omega), uu_n (by omega), e2, s1]
  intro p q s y y2 g1 g2 g3 g4 g5
  rw [g1, g2, g3, g4, g5]
  exact inv_cnt hD h hc' hm e1 e2 e3 (by omega) i8
