/-! sure: the call -/
theorem ldT {Y j : Nat} (hY : Y ≤ 12) (hj : j ≤ 12) : ((2 : Int32) * nI Y - nI j).toInt = 2 * (Y : Int) - (j : Int) := by
  rw [show (2 : Int32) * nI Y = nI (2 * Y) from nb_mul 2 Y, Int32.toInt_sub, nI_toInt (by omega), nI_toInt (by omega), Int.bmod_eq_of_le (by omega) (by omega)]
  omega
def pcmk (v m : Nat) : Bool := decide (pc (v &&& (2 ^ m - 1)) = pcn v m)
theorem pcm0 : ∀ a, a < 16 → ∀ b, b < 16 → ∀ m, m < 9 → pcmk (16 * a + b) m = true := by decide +kernel
theorem pcm {v m : Nat} (hv : v < 256) (hm : m ≤ 8) : pc (v &&& (2 ^ m - 1)) = pcn v m := by
  have h := pcm0 (v / 16) (by omega) (v % 16) (by omega) m (by omega)
  rw [show 16 * (v / 16) + v % 16 = v by omega] at h
  exact of_decide_eq_true h
/-- the places to count again, of the row R with m men, votes v, f at most turned -/
def ldr (v m : Nat) : Int := 2 * (pcn v m : Int) - (m : Int)
def rcU (R : Nat → Int32) (v m f : Nat) (x : Nat) : Bool := uns (ldr v m) (min (atc R v (decide (ldr v m = 0)) (if ldr v m < 0 then 0 else 1) x m) f)
theorem q167 {I : am_I} {m v f : Nat} {K : Int32 → am_I → Prop} (hm : m ≤ 8) (hv : v < 256) (hf : f ≤ 8) (em : I 1 10 = nI m) (ev : I 1 9 = nI v) (hp : ∀ p, p < m → ∃ x, x < 10 ∧ I 6 p = nI x ∧ I 68 (10 + p) = nI x) (hK : ∀ J, (∀ c, c ≠ 62 → J c = I c) → K (nI (acc (rcU (I 68) v m f) 10)) J) : w_167 (nI f) I K := by
  unfold w_167
  have p2 : 2 ^ m ≤ 256 := Nat.pow_le_pow_right (n := 2) (j := 8) (by decide) hm
  have gl : v &&& (2 ^ m - 1) < 4096 := Nat.lt_of_le_of_lt Nat.and_le_left (by omega)
  rw [q153 hm em, ev, em, nx_and, q111 gl, pcm hv hm]
  have pl := pcn_le v m
  have el : ((2 : Int32) * nI (pcn v m) - nI m).toInt = ldr v m := ldT (by omega) (by omega)
  generalize hld : (2 : Int32) * nI (pcn v m) - nI m = ld at el ⊢
  have h8 : -8 ≤ ldr v m ∧ ldr v m ≤ 8 := by unfold ldr; omega
  have ez : decide (ldr v m = 0) = decide (ld = 0) := by
    by_cases z : ld = 0
    · rw [decide_eq_true z, decide_eq_true (by rw [← el, z]; rfl)]
    · rw [decide_eq_false z, decide_eq_false (fun q => z (Int32.toInt_inj.mp (by rw [el, q]; rfl)))]
  have run : ∀ sd, sd < 2 → (if ldr v m < 0 then 0 else 1) = sd → ∃ n34, lw_167_34 n34 (nI f) ld (nI sd) 0 I (fun o1 I2 => ∃ n58, lw_167_58 n58 (nI f) ld (nI sd) 0 I2 (fun o3 I4 => ∃ n113, lw_167_113 n113 (nI f) ld 0 0 I4 (fun o5 o6 => K o5 I4))) := by
    intro sd hsd e
    refine ⟨11, l167a (fun A a1 a2 => ?_) 10 0 I (by omega) (fun _ _ => rfl) (fun x hx => absurd hx (by omega))⟩
    refine ⟨m + 1, l167b (I := A) (al := decide (ldr v m = 0)) (sd := sd) hm hv (by rw [a1 1 (by decide)]; exact em) (by rw [a1 1 (by decide)]; exact ev) hsd ez (by rw [a1 6 (by decide), a1 68 (by decide)]; exact hp) (fun B b1' b2 => ?_) m 0 A (by omega) (fun _ _ => rfl) (fun x hx => by rw [a2 x hx]; rfl)⟩
    have B68 : A 68 = I 68 := a1 68 (by decide)
    rw [B68] at b2
    refine ⟨11, l167c (I := B) (f := f) (l := ldr v m) (ld := ld) (C := fun x => atc (I 68) v (decide (ldr v m = 0)) sd x m) (E := fun o5 _ => K o5 B) hf el h8 (fun x hx => ⟨Nat.le_trans (fb_ct_le _ _) hm, b2 x hx⟩) ?_ 10 0 (by omega)⟩
    have hk := hK B (fun c hc => (b1' c hc).trans (a1 c hc))
    unfold rcU at hk
    rw [e] at hk
    exact hk
  by_cases z : 0 ≤ ld
  · rw [if_pos z]
    rw [Int32.le_iff_toInt_le, Int32.toInt_zero, el] at z
    exact run 1 (by decide) (if_neg (by omega))
  · rw [if_neg z]
    rw [Int32.le_iff_toInt_le, Int32.toInt_zero, el] at z
    exact run 0 (by decide) (if_pos (by omega))
theorem atc_all (R : Nat → Int32) (v x m : Nat) (sd : Nat) : atc R v true sd x m = atc R v false 1 x m + atc R v false 0 x m := by
  unfold atc
  rw [← fb_ct_or]
  · refine fb_ct_cong (fun p _ => ?_)
    unfold atv
    have bl := bi_lt v p
    rcases (by omega : bi v p = 0 ∨ bi v p = 1) with y | y <;> rw [y] <;> cases decide (R (10 + p) = nI x) <;> rfl
  · intro p _ hh
    unfold atv at hh
    have bl := bi_lt v p
    rcases (by omega : bi v p = 0 ∨ bi v p = 1) with y | y <;> rw [y] at hh <;> simp at hh
theorem q290 {I : am_I} {m v f x : Nat} {ld : Int32} {K : Int32 → Prop} (hm : m ≤ 8) (hf : f ≤ 8) (em : I 68 1 = nI m) (hl : ld.toInt = ldr v m) (hp : ∀ p, p < m → I 68 (50 + p) = nI (bi v p)) (hK : K (b1 (!rcU (I 68) v m f x))) : w_290 (nI x) (nI f) ld I K := by
  unfold w_290
  have y8 : atc (I 68) v false 1 x m ≤ m := fb_ct_le _ _
  have n8 : atc (I 68) v false 0 x m ≤ m := fb_ct_le _ _
  have al := atc_all (I 68) v x m
  refine ⟨m + 1, l290 (v := v) hm em hp ?_ m 0 (by omega)⟩
  have hcc : (ldr v m = 0 → atc (I 68) v (decide (ldr v m = 0)) (if ldr v m < 0 then 0 else 1) x m = atc (I 68) v false 1 x m + atc (I 68) v false 0 x m) ∧ (0 < ldr v m → atc (I 68) v (decide (ldr v m = 0)) (if ldr v m < 0 then 0 else 1) x m = atc (I 68) v false 1 x m) ∧ (ldr v m < 0 → atc (I 68) v (decide (ldr v m = 0)) (if ldr v m < 0 then 0 else 1) x m = atc (I 68) v false 0 x m) := by
    refine ⟨fun z => ?_, fun z => ?_, fun z => ?_⟩
    · rw [decide_eq_true z]
      exact al _
    · rw [decide_eq_false (by omega), if_neg (by omega)]
    · rw [decide_eq_false (by omega), if_pos z]
  unfold rcU at hK
  have c8 : atc (I 68) v (decide (ldr v m = 0)) (if ldr v m < 0 then 0 else 1) x m ≤ m := fb_ct_le _ _
  generalize atc (I 68) v (decide (ldr v m = 0)) (if ldr v m < 0 then 0 else 1) x m = cc at hK hcc c8
  clear al
  generalize atc (I 68) v false 1 x m = yy at hcc y8 ⊢
  generalize atc (I 68) v false 0 x m = nn at hcc n8 ⊢
  have pl := pcn_le v m
  have h8 : -8 ≤ ldr v m ∧ ldr v m ≤ 8 := by unfold ldr; omega
  generalize ldr v m = l at hK hcc hl h8
  have fin : wb_290_120 ld (nI (min yy f)) (nI (min nn f)) I K := by
    unfold wb_290_120
    have e2 : ∀ t : Nat, (2 : Int32) * nI t = nI (2 * t) := fun t => nb_mul 2 t
    by_cases z0 : l ≤ 0
    · rw [if_pos (by rw [Int32.le_iff_toInt_le, Int32.toInt_zero, hl]; exact z0)]
      by_cases z1 : 0 ≤ l
      · have lz : l = 0 := by omega
        rw [if_pos (by rw [Int32.le_iff_toInt_le, Int32.toInt_zero, hl]; exact z1), nb_add]
        have hc := hcc.1 lz
        by_cases y : min yy f + min nn f = 0
        · rw [if_pos (by rw [y]; rfl)]
          rw [b1_t (by unfold uns; simp; omega)] at hK
          exact hK
        · rw [if_neg (nI_ne0 (by omega) (by omega))]
          rw [b1_f (by unfold uns; simp; omega)] at hK
          exact hK
      · rw [if_neg (by rw [Int32.le_iff_toInt_le, Int32.toInt_zero, hl]; exact z1), e2]
        have hc := hcc.2.2 (by omega)
        have et : (ld + nI (2 * min nn f)).toInt = l + 2 * (min nn f : Nat) := by
          rw [Int32.toInt_add, hl, nI_toInt (by omega), Int.bmod_eq_of_le (by omega) (by omega)]
          omega
        by_cases y : 0 ≤ l + 2 * (min nn f : Nat)
        · rw [if_pos (by rw [Int32.le_iff_toInt_le, Int32.toInt_zero, et]; exact y)]
          rw [b1_f (by unfold uns; simp; omega)] at hK
          exact hK
        · rw [if_neg (by rw [Int32.le_iff_toInt_le, Int32.toInt_zero, et]; exact y)]
          rw [b1_t (by unfold uns; simp; omega)] at hK
          exact hK
    · rw [if_neg (by rw [Int32.le_iff_toInt_le, Int32.toInt_zero, hl]; exact z0), e2]
      have hc := hcc.2.1 (by omega)
      have et : (ld - nI (2 * min yy f)).toInt = l - 2 * (min yy f : Nat) := by
        rw [Int32.toInt_sub, hl, nI_toInt (by omega), Int.bmod_eq_of_le (by omega) (by omega)]
        omega
      by_cases y : l - 2 * (min yy f : Nat) ≤ 0
      · rw [if_pos (by rw [Int32.le_iff_toInt_le, Int32.toInt_zero, et]; exact y)]
        rw [b1_f (by unfold uns; simp; omega)] at hK
        exact hK
      · rw [if_neg (by rw [Int32.le_iff_toInt_le, Int32.toInt_zero, et]; exact y)]
        rw [b1_t (by unfold uns; simp; omega)] at hK
        exact hK
  have mid : wb_290_106 (nI f) ld (nI nn) (nI (min yy f)) I K := by
    unfold wb_290_106
    by_cases z : f ≤ nn
    · rw [if_pos (nI_le z (by omega))]
      rw [show min nn f = f by omega] at fin
      exact fin
    · rw [if_neg (nI_ge (by omega) (by omega))]
      rw [show min nn f = nn by omega] at fin
      exact fin
  by_cases z : f ≤ yy
  · refine am_ifp (nI_le z (by omega)) ?_
    rw [show min yy f = f by omega] at mid
    exact mid
  · refine am_ifn (nI_ge (by omega) (by omega)) ?_
    rw [show min yy f = yy by omega] at mid
    exact mid
theorem l289a {I : am_I} {m v : Nat} {a b : Int32} {E : Int32 → Int32 → Prop} (hm : m ≤ 8) (em : I 68 1 = nI m) (hp : ∀ p, p < m → I 68 (50 + p) = nI (bi v p)) (hE : E ((2 : Int32) * nI (pcn v m) - nI m) (nI m)) : ∀ k j, j + k = m → lw_289_34 (k + 1) a b ((2 : Int32) * nI (pcn v j) - nI j) (nI j) I E
  | 0, j, h => by
    have hj : j = m := by omega
    subst hj
    unfold lw_289_34
    rw [em, if_pos (nI_le (Nat.le_refl _) (by omega))]
    exact hE
  | k + 1, j, h => by
    have ih := l289a (a := a) (b := b) hm em hp hE k (j + 1) (by omega)
    unfold lw_289_34
    rw [em, if_neg (nI_ge (by omega) (by omega))]
    obtain ⟨g2, k2⟩ := ixa (a := 50) (n := j) (by omega)
    refine ⟨g2, ?_⟩
    rw [show Int32.toNatClampNeg (50 + nI j) = 50 + j from k2, hp j (by omega), ← nI_succ]
    have pl := pcn_le v j
    have bl := bi_lt v j
    have e : (2 : Int32) * nI (pcn v j) - nI j + (2 * nI (bi v j) - 1) = 2 * nI (pcn v (j + 1)) - nI (j + 1) := by
      apply Int32.toInt_inj.mp
      have pl2 := pcn_le v (j + 1)
      rw [Int32.toInt_add, ldT (by omega) (by omega), show (2 : Int32) * nI (bi v j) - 1 = 2 * nI (bi v j) - nI 1 from rfl, ldT (by omega) (by omega), ldT (by omega) (by omega), Int.bmod_eq_of_le (by omega) (by omega)]
      show _ = 2 * ((pcn v j + bi v j : Nat) : Int) - _
      omega
    rw [e]
    exact ih
theorem q289a {I : am_I} {m v : Nat} {a b : Int32} {E : Int32 → Int32 → Prop} (hm : m ≤ 8) (em : I 68 1 = nI m) (hp : ∀ p, p < m → I 68 (50 + p) = nI (bi v p)) (hE : E ((2 : Int32) * nI (pcn v m) - nI m) (nI m)) : lw_289_34 (m + 1) a b 0 0 I E := by
  have z := l289a (a := a) (b := b) hm em hp hE m 0 (by omega)
  rw [show (2 : Int32) * nI (pcn v 0) - nI 0 = 0 by rw [show pcn v 0 = 0 from rfl]; decide] at z
  exact z
theorem l289b {I : am_I} {m v f : Nat} {b ld : Int32} {E : Int32 → Int32 → Prop} (hm : m ≤ 8) (hf : f ≤ 8) (em : I 68 1 = nI m) (hl : ld.toInt = ldr v m) (hp : ∀ p, p < m → I 68 (50 + p) = nI (bi v p)) (hE : E (nI (acc (rcU (I 68) v m f) 10)) (nI 10)) : ∀ k j, j + k = 10 → lw_289_74 (k + 1) (nI f) b ld (nI (acc (rcU (I 68) v m f) j)) (nI j) I E
  | 0, j, h => by
    have hj : j = 10 := by omega
    subst hj
    unfold lw_289_74
    rw [if_pos (show (10 : Int32) ≤ nI 10 from nI_le (a := 10) (Nat.le_refl _) (by decide))]
    exact hE
  | k + 1, j, h => by
    have ih := l289b (b := b) hm hf em hl hp hE k (j + 1) (by omega)
    unfold lw_289_74
    rw [if_neg (show ¬ (10 : Int32) ≤ nI j from nI_ge (b := 10) (by omega) (by decide))]
    refine q290 hm hf em hl hp ?_
    rw [← nI_succ]
    have ea : acc (rcU (I 68) v m f) (j + 1) = (if rcU (I 68) v m f j = true then acc (rcU (I 68) v m f) j ||| 2 ^ j else acc (rcU (I 68) v m f) j) := rfl
    rw [ea] at ih
    cases hb : rcU (I 68) v m f j with
    | true =>
      rw [if_pos hb] at ih
      refine am_ifp rfl ?_
      rw [q1s j (by omega), fa_or]
      exact ih
    | false =>
      rw [if_neg (by rw [hb]; decide)] at ih
      refine am_ifn (by decide) ?_
      rw [show (0 : Int32) = nI 0 from rfl, fa_or, Nat.or_zero]
      exact ih
theorem acc_lt (U : Nat → Bool) : ∀ j, acc U j < 2 ^ j
  | 0 => (show 0 < 1 by decide)
  | j + 1 => by
    have ih := acc_lt U j
    show (if U j = true then acc U j ||| 2 ^ j else acc U j) < 2 ^ (j + 1)
    have p : 2 ^ (j + 1) = 2 ^ j + 2 ^ j := by rw [Nat.pow_succ]; omega
    split
    · exact Nat.or_lt_two_pow (by omega) (by omega)
    · omega
theorem s182 (x : Int32) : f_182 x.toInt64 0 8 = f_13 x 0 8 := q182 x 0 8
theorem o_35 {D : am_P} (hD : FrD D) {N : Nat} {T : Nat → Nat × Nat} {r : Nat → Nat → Option Nat} {I : am_I} {L : am_J} (h : Inv D N T r I L) (x1 x2 : Int32) : op_35 x1 x2 (Inv D) N T r I L := by
  unfold op_35 w_166
  obtain ⟨m, v, hm, hv, e1, e2, e3, hp⟩ := h.1.2.1
  rcases q13 x1 0 8 (by decide) (by decide) with ⟨a1, _⟩ | ⟨a1, f, _, hf, rfl⟩
  · have a1 : f_13 x1 0 8 = 0 := a1
    rw [if_pos a1]
    show w_289 _ _ _ _
    unfold w_289
    simp only [s182, b182]
    exact am_ifp a1 ⟨trivial, inv_0 hD h⟩
  have n1 : ¬ f_13 (nI f) 0 8 = 0 := by rw [show f_13 (nI f) 0 8 = 1 from a1]; decide
  rw [if_neg n1]
  rcases q18 x2 with ⟨b1', b2, _, _⟩ | ⟨b1', b2, b, hb, _⟩
  · rw [if_pos b1']
    show w_289 _ _ _ _
    unfold w_289
    simp only [s182, b182]
    exact am_ifn n1 (am_ifp b2 ⟨trivial, inv_0 hD h⟩)
  rw [if_neg (by rw [b1']; decide)]
  have n2 : ¬ f_13 x2 0 1 = 0 := by rw [b2]; decide
  refine q167 hm hv hf e1 e3 (fun p hpm => ?_) (fun J hJ => ?_)
  · obtain ⟨_, y, w, a, k, t, _, _, _, ha, _, _, _, _, q3, _, _, _, _, s3, _, _⟩ := hp p hpm
    exact ⟨a, ha, q3, s3⟩
  have iJ : Inv D N T r (am_u J 66 0 0) L := inv_0 hD (inv_scr hD h (fun c hc => hJ c (by omega)))
  have J68 : J 68 = I 68 := hJ 68 (by decide)
  have e68 : am_u J 66 0 0 68 = I 68 := by rw [uu_h (by decide), J68]
  have al := acc_lt (rcU (I 68) v m f) 10
  have pl := pcn_le v m
  have el : ((2 : Int32) * nI (pcn v m) - nI m).toInt = ldr v m := ldT (by omega) (by omega)
  have mdl : ∀ q : Int32, (x2 = 0 → q = nI (pc (acc (rcU (I 68) v m f) 10))) → (¬ x2 = 0 → q = nI (acc (rcU (I 68) v m f) 10)) → w_289 (nI f) x2 J (fun q2 I2 => q = q2 ∧ Inv D N T r I2 L) := by
    intro q h1 h2
    unfold w_289
    simp only [s182, b182]
    refine am_ifn n1 (am_ifn n2 ?_)
    refine ⟨m + 1, q289a (I := am_u J 66 0 0) (v := v) (m := m) hm (by rw [e68]; exact e2) (fun p hpm => by rw [e68]; exact (hp p hpm).1) ?_⟩
    refine ⟨11, l289b (I := am_u J 66 0 0) (v := v) (m := m) (f := f) hm hf (by rw [e68]; exact e2) el (fun p hpm => by rw [e68]; exact (hp p hpm).1) ?_ 10 0 (by omega)⟩
    rw [e68]
    by_cases z : x2 = 0
    · refine am_ifp z ?_
      exact q236 (by omega) ⟨h1 z, iJ⟩
    · exact am_ifn z ⟨h2 z, iJ⟩
  by_cases z : x2 = 0
  · refine am_ifp z ?_
    exact mdl _ (fun _ => q111 (by omega)) (fun q => absurd z q)
  · refine am_ifn z ?_
    exact mdl _ (fun q => absurd q z) (fun _ => rfl)
