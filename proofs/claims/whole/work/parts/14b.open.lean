/-! who opens a door -/
def exb (P : Nat → Bool) : Nat → Bool
  | 0 => false
  | n + 1 => exb P n || P n
theorem exb_cong {P Q : Nat → Bool} : ∀ {n : Nat}, (∀ k, k < n → P k = Q k) → exb P n = exb Q n
  | 0, _ => rfl
  | n + 1, h => by
    show (exb P n || P n) = (exb Q n || Q n)
    rw [exb_cong (fun k hk => h k (by omega)), h n (by omega)]
theorem exb_in {P : Nat → Bool} {k : Nat} (hk : P k = true) : ∀ {n : Nat}, k < n → exb P n = true
  | 0, h => absurd h (by omega)
  | n + 1, h => by
    show (exb P n || P n) = true
    by_cases e : k = n
    · subst e
      rw [hk, Bool.or_true]
    · rw [exb_in hk (show k < n by omega), Bool.true_or]
def b1 (b : Bool) : Int32 := if b then 1 else 0
theorem b1_t {b : Bool} (h : b = true) : b1 b = 1 := by rw [h]; rfl
theorem b1_f {b : Bool} (h : b = false) : b1 b = 0 := by rw [h]; rfl
theorem b1_01 (b : Bool) : b1 b = 0 ∨ b1 b = 1 := by cases b <;> first | exact Or.inl rfl | exact Or.inr rfl
/-- whether q, at the same place, opens it for p -/
def opq (pl k t : Nat → Int32) (p d q : Nat) : Bool := decide (pl q = pl p) && (decide (f_20 (k q) (nI d) = 1) && decide (f_20 (t q) (nI p) = 1))
def opb (wl : Bool) (pl k t : Nat → Int32) (m p d : Nat) : Bool := !wl && (decide (f_20 (k p) (nI d) = 1) || exb (opq pl k t p d) m)
theorem l96 {a : Nat} {T : Nat → Nat × Nat} {r : Nat → Nat → Option Nat} {I : am_I} {m p d : Nat} {E R : Int32 → Prop} (hm : m ≤ 8) (hp : p < m) (e : I 1 10 = nI m) (h1 : (am_ts T a).1 = 20) (h2 : 8 ≤ (am_ts T a).2) (hE : exb (opq (I a) (I 7) (I 8) p d) m = false → E (nI m)) (hR : exb (opq (I a) (I 7) (I 8) p d) m = true → R 1) : ∀ k j, j + k = m → exb (opq (I a) (I 7) (I 8) p d) j = false → lw_96_33 (k + 1) (nI p) (nI d) a (nI j) T r I E R
  | 0, j, h, hx => by
    have hj : j = m := by omega
    subst hj
    unfold lw_96_33
    rw [if_pos (by rw [e]; exact nI_le (Nat.le_refl _) (by omega))]
    exact hE hx
  | k + 1, j, h, hx => by
    have ih := l96 (r := r) hm hp e h1 h2 hE hR k (j + 1) (by omega)
    have go : opq (I a) (I 7) (I 8) p d j = false → lw_96_33 (k + 1) (nI p) (nI d) a (nI j + 1) T r I E R := by
      intro q
      rw [← nI_succ]
      refine ih ?_
      show (exb (opq (I a) (I 7) (I 8) p d) j || opq (I a) (I 7) (I 8) p d j) = false
      rw [hx, q]
      rfl
    unfold lw_96_33
    rw [if_neg (by rw [e]; exact nI_ge (by omega) (by omega))]
    have gg : ∀ i, i < 8 → ¬ (nI i < 0 ∨ (am_ts T a).2 ≤ Int32.toNatClampNeg (nI i)) := by
      intro i hi q
      rw [nI_clamp (by omega)] at q
      rcases q with q | q
      · exact nI_pos (by omega) q
      · omega
    have g8 : ¬ (nI j < 0 ∨ 8 ≤ Int32.toNatClampNeg (nI j)) := nb_gd (by omega) (by decide)
    refine ⟨h1, gg j (by omega), h1, gg p (by omega), ?_⟩
    rw [nI_clamp (by omega : j < 2 ^ 31), nI_clamp (by omega : p < 2 ^ 31)]
    rw [nI_clamp (by omega : j < 2 ^ 31)] at g8
    by_cases c1 : I a j = I a p
    · rw [if_pos c1]
      refine ⟨g8, ?_⟩
      by_cases c2 : f_20 (I 7 j) (nI d) = 1
      · rw [if_pos c2]
        refine ⟨g8, ?_⟩
        by_cases c3 : f_20 (I 8 j) (nI p) = 1
        · rw [if_pos c3]
          refine hR (exb_in (k := j) ?_ (by omega))
          unfold opq
          simp [c1, c2, c3]
        · rw [if_neg c3]
          refine go ?_
          unfold opq
          simp [c3]
      · rw [if_neg c2]
        refine go ?_
        unfold opq
        simp [c2]
    · rw [if_neg c1]
      refine go ?_
      unfold opq
      simp [c1]
theorem q96 {a : Nat} {T : Nat → Nat × Nat} {r : Nat → Nat → Option Nat} {I : am_I} {m p d : Nat} {K : Int32 → Prop} (hm : m ≤ 8) (hp : p < m) (e : I 1 10 = nI m) (h1 : (am_ts T a).1 = 20) (h2 : 8 ≤ (am_ts T a).2) (hK : K (b1 (opb (decide (f_20 (I 1 3) (nI d) = 1)) (I a) (I 7) (I 8) m p d))) : w_96 (nI p) (nI d) a T r I K := by
  unfold w_96
  by_cases c1 : f_20 (I 1 3) (nI d) = 1
  · rw [if_pos c1]
    rw [b1_f (by unfold opb; simp [c1])] at hK
    exact hK
  · rw [if_neg c1]
    refine ⟨nb_gd (by omega) (by decide), ?_⟩
    rw [nI_clamp (by omega : p < 2 ^ 31)]
    by_cases c2 : f_20 (I 7 p) (nI d) = 1
    · rw [if_pos c2]
      rw [b1_t (by unfold opb; simp [c1, c2])] at hK
      exact hK
    · rw [if_neg c2]
      refine ⟨m + 1, l96 (E := fun _ => K 0) (R := K) hm hp e h1 h2 (fun q => ?_) (fun q => ?_) m 0 (by omega) rfl⟩
      · rw [b1_f (by unfold opb; simp [c1, c2, q])] at hK
        exact hK
      · rw [b1_t (by unfold opb; simp [c1, c2, q])] at hK
        exact hK
theorem q248 (x y : Int32) : f_248 x y = b1 (decide (f_20 x y = 1)) := by
  unfold f_248 f_20 b1
  by_cases c : (x >>> (y &&& 31)) &&& 1 = 1
  · rw [if_pos c, if_pos (by simp [c])]
  · rw [if_neg c, if_neg (by simp [c])]
theorem b1_z {b : Bool} : b1 b = 0 ↔ b = false := by
  cases b <;> simp [b1]
theorem l247 {I : am_I} {m p d : Nat} {b0 : Bool} {E : Int32 → Int32 → Prop} (hm : m ≤ 8) (hp : p < m) (e : I 68 1 = nI m) (hE : E (b1 (b0 || exb (opq (fun q => I 68 (10 + q)) (fun q => I 68 (18 + q)) (fun q => I 68 (42 + q)) p d) m)) (nI m)) : ∀ k j, j + k = m → lw_247_17 (k + 1) (nI p) (nI d) (b1 (b0 || exb (opq (fun q => I 68 (10 + q)) (fun q => I 68 (18 + q)) (fun q => I 68 (42 + q)) p d) j)) (nI j) I E
  | 0, j, h => by
    have hj : j = m := by omega
    subst hj
    unfold lw_247_17
    rw [if_pos (by rw [e]; exact nI_le (Nat.le_refl _) (by omega))]
    exact hE
  | k + 1, j, h => by
    have ih := l247 hm hp e hE k (j + 1) (by omega)
    unfold lw_247_17
    rw [if_neg (by rw [e]; exact nI_ge (by omega) (by omega)), ← nI_succ]
    have es : exb (opq (fun q => I 68 (10 + q)) (fun q => I 68 (18 + q)) (fun q => I 68 (42 + q)) p d) (j + 1) = (exb (opq (fun q => I 68 (10 + q)) (fun q => I 68 (18 + q)) (fun q => I 68 (42 + q)) p d) j || opq (fun q => I 68 (10 + q)) (fun q => I 68 (18 + q)) (fun q => I 68 (42 + q)) p d j) := rfl
    rw [es] at ih
    cases hb : (b0 || exb (opq (fun q => I 68 (10 + q)) (fun q => I 68 (18 + q)) (fun q => I 68 (42 + q)) p d) j) with
    | true =>
      rw [← Bool.or_assoc, hb] at ih
      rw [if_neg (by decide)]
      exact ih
    | false =>
      rw [← Bool.or_assoc, hb, Bool.false_or] at ih
      rw [if_pos (by decide)]
      obtain ⟨g1, k1⟩ := ixa (a := 10) (n := j) (by omega)
      obtain ⟨g2, k2⟩ := ixa (a := 10) (n := p) (by omega)
      obtain ⟨g3, k3⟩ := ixa (a := 18) (n := j) (by omega)
      obtain ⟨g4, k4⟩ := ixa (a := 42) (n := j) (by omega)
      refine ⟨g1, g2, ?_⟩
      rw [show Int32.toNatClampNeg (10 + nI j) = 10 + j from k1, show Int32.toNatClampNeg (10 + nI p) = 10 + p from k2]
      by_cases c1 : I 68 (10 + j) = I 68 (10 + p)
      · rw [if_pos c1]
        refine ⟨g3, ?_⟩
        rw [show Int32.toNatClampNeg (18 + nI j) = 18 + j from k3, q248]
        by_cases c2 : f_20 (I 68 (18 + j)) (nI d) = 1
        · rw [if_neg (by rw [b1_z]; simp [c2])]
          unfold w_249
          rw [show Int32.toNatClampNeg (42 + nI j) = 42 + j from k4, q248]
          refine ⟨?_, b1_01 _, ?_⟩
          · rw [← show Int32.toNatClampNeg (42 + nI j) = 42 + j from k4]
            exact g4
          by_cases c3 : f_20 (I 68 (42 + j)) (nI p) = 1
          · refine am_ifn (show ¬ b1 (decide (f_20 (I 68 (42 + j)) (nI p) = 1)) = 0 by rw [b1_z]; simp [c3]) ?_
            rw [b1_t (by unfold opq; simp [c1, c2, c3])] at ih
            exact ih
          · refine am_ifp (show b1 (decide (f_20 (I 68 (42 + j)) (nI p) = 1)) = 0 by rw [b1_z]; simp [c3]) ?_
            rw [b1_f (by unfold opq; simp [c3])] at ih
            exact ih
        · rw [if_pos (by rw [b1_z]; simp [c2])]
          rw [b1_f (by unfold opq; simp [c2])] at ih
          exact ih
      · rw [if_neg c1]
        rw [b1_f (by unfold opq; simp [c1])] at ih
        exact ih
theorem q247 {I : am_I} {m n p d : Nat} {K : Int32 → Prop} (hm : m ≤ 8) (hp : p < m) (hn : n ≤ 12) (hd : d < n) (e : I 68 1 = nI m) (hK : K (b1 (opb (decide (¬ I 68 (60 + 3 * d) = 0)) (fun q => I 68 (10 + q)) (fun q => I 68 (18 + q)) (fun q => I 68 (42 + q)) m p d))) : w_247 (nI p) (nI d) I K := by
  unfold w_247
  obtain ⟨g1, k1⟩ := ixa (a := 18) (n := p) (by omega)
  refine ⟨g1, ?_⟩
  rw [show Int32.toNatClampNeg (18 + nI p) = 18 + p from k1, q248]
  refine ⟨m + 1, ?_⟩
  have hh : ∀ E : Int32 → Int32 → Prop, E (b1 (decide (f_20 (I 68 (18 + p)) (nI d) = 1) || exb (opq (fun q => I 68 (10 + q)) (fun q => I 68 (18 + q)) (fun q => I 68 (42 + q)) p d) m)) (nI m) → lw_247_17 (m + 1) (nI p) (nI d) (b1 (decide (f_20 (I 68 (18 + p)) (nI d) = 1))) 0 I E := by
    intro E hE
    have q := l247 (b0 := decide (f_20 (I 68 (18 + p)) (nI d) = 1)) hm hp e hE m 0 (by omega)
    rw [show exb (opq (fun q => I 68 (10 + q)) (fun q => I 68 (18 + q)) (fun q => I 68 (42 + q)) p d) 0 = false from rfl, Bool.or_false] at q
    exact q
  refine hh _ ?_
  show (if _ then _ else _)
  unfold opb at hK
  by_cases c : (decide (f_20 (I 68 (18 + p)) (nI d) = 1) || exb (opq (fun q => I 68 (10 + q)) (fun q => I 68 (18 + q)) (fun q => I 68 (42 + q)) p d) m) = true
  · rw [c] at hK ⊢
    refine am_ifn (by decide) ?_
    unfold w_250
    rw [show (2 : Int32) = nI 2 from rfl, ix3]
    refine ⟨nb_gd (by omega) (by decide), ?_⟩
    rw [nI_clamp (by omega), show 58 + 3 * d + 2 = 60 + 3 * d by omega]
    by_cases z : I 68 (60 + 3 * d) = 0
    · refine am_ifp z ?_
      rw [b1_t (by simp [z])] at hK
      exact hK
    · refine am_ifn z ?_
      rw [b1_f (by simp [z])] at hK
      exact hK
  · have c : (decide (f_20 (I 68 (18 + p)) (nI d) = 1) || exb (opq (fun q => I 68 (10 + q)) (fun q => I 68 (18 + q)) (fun q => I 68 (42 + q)) p d) m) = false := by
      cases h : (decide (f_20 (I 68 (18 + p)) (nI d) = 1) || exb (opq (fun q => I 68 (10 + q)) (fun q => I 68 (18 + q)) (fun q => I 68 (42 + q)) p d) m) with
      | true => exact absurd h c
      | false => rfl
    rw [c] at hK ⊢
    refine am_ifp (by decide) ?_
    rw [b1_f (by simp)] at hK
    exact hK
/-- both sides open alike -/
theorem op_eq {c1 c4 c5 c6 c7 c8 R : Nat → Int32} {pl : Nat → Int32} {m v n w p d : Nat} (hw : w < 2 ^ n) (hn : n ≤ 12) (hd : d < n) (e3 : c1 3 = nI w) (hdd : R (60 + 3 * d) = nI (bi w d)) (hp : ∀ p, p < m → R (50 + p) = nI (bi v p) ∧ PRp c4 c5 c6 c7 c8 R p) (hpm : p < m) (hpl : ∀ q, q < m → pl q = R (10 + q)) : opb (decide (f_20 (c1 3) (nI d) = 1)) pl c7 c8 m p d = opb (decide (¬ R (60 + 3 * d) = 0)) (fun q => R (10 + q)) (fun q => R (18 + q)) (fun q => R (42 + q)) m p d := by
  have hwn : w < 2 ^ 31 := Nat.lt_of_lt_of_le hw (Nat.pow_le_pow_right (by decide) (by omega))
  have hb := bi_lt w d
  have kk : ∀ q, q < m → c7 q = R (18 + q) ∧ c8 q = R (42 + q) := by
    intro q hq
    obtain ⟨_, y, w, a, k, t, _, _, _, _, _, _, _, _, _, q4, q5, _, _, _, s4, s5⟩ := hp q hq
    exact ⟨q4.trans s4.symm, q5.trans s5.symm⟩
  unfold opb
  have e1 : decide (f_20 (c1 3) (nI d) = 1) = decide (¬ R (60 + 3 * d) = 0) := by
    rw [e3, q20 hwn (by omega), hdd]
    rcases (by omega : bi w d = 0 ∨ bi w d = 1) with h | h <;> rw [h] <;> rfl
  have e2 : exb (opq pl c7 c8 p d) m = exb (opq (fun q => R (10 + q)) (fun q => R (18 + q)) (fun q => R (42 + q)) p d) m := by
    refine exb_cong (fun q hq => ?_)
    unfold opq
    rw [hpl q hq, hpl p hpm, (kk q hq).1, (kk q hq).2]
  rw [e1, e2, (kk p hpm).1]
theorem o_23 {D : am_P} (hD : FrD D) {N : Nat} {T : Nat → Nat × Nat} {r : Nat → Nat → Option Nat} {I : am_I} {L : am_J} (h : Inv D N T r I L) (x1 x2 : Int32) : op_23 x1 x2 (Inv D) N T r I L := by
  unfold op_23 w_124
  have h' := inv_0 hD h
  obtain ⟨m, v, hm, hv, e1, e2, e3, hp⟩ := h.1.2.1
  obtain ⟨n, w, hn, hw, f1, f2, f3, hpd⟩ := h.1.1
  rcases qm hm e1 e2 x1 with ⟨c1, c2, _⟩ | ⟨c1, c2, p, hpm, rfl⟩
  · rw [if_pos c1]
    show w_246 _ _ _ _
    unfold w_246
    exact am_ifp c2 ⟨rfl, h'⟩
  rw [if_neg (by rw [c1]; decide)]
  have n2 : ¬ f_192 (nI p) I = 0 := by rw [c2]; decide
  rcases qd hn f1 f2 x2 with ⟨d1, d2, _⟩ | ⟨d1, d2, d, hd, rfl⟩
  · rw [if_pos d1]
    show w_246 _ _ _ _
    unfold w_246
    exact am_ifn n2 (am_ifp d2 ⟨rfl, h'⟩)
  rw [if_neg (by rw [d1]; decide)]
  have n3 : ¬ f_187 (nI d) I = 0 := by rw [d2]; decide
  have hpl : ∀ q, q < m → I 6 q = I 68 (10 + q) := by
    intro q hq
    obtain ⟨_, y, w, a, k, t, _, _, _, _, _, _, _, _, q3, _, _, _, _, s3, _, _⟩ := hp q hq
    exact q3.trans s3.symm
  have eq := op_eq (pl := I 6) hw hn hd f3 (hpd d hd).1 hp hpm hpl
  refine q96 (a := 6) hm hpm e1 rfl (show 8 ≤ 8 from Nat.le_refl 8) ?_
  rw [eq]
  have fin : ∀ b : Bool, b = opb (decide (¬ I 68 (60 + 3 * d) = 0)) (fun q => I 68 (10 + q)) (fun q => I 68 (18 + q)) (fun q => I 68 (42 + q)) m p d → w_246 (nI p) (nI d) I (fun q2 I2 => b1 b = q2 ∧ Inv D N T r I2 L) := by
    intro b hb
    unfold w_246
    refine am_ifn n2 (am_ifn n3 ?_)
    refine q247 (I := am_u I 66 0 0) hm hpm hn hd e2 ?_
    show (if b1 (opb (decide (¬ I 68 (60 + 3 * d) = 0)) (fun q => I 68 (10 + q)) (fun q => I 68 (18 + q)) (fun q => I 68 (42 + q)) m p d) = 0 then _ else _)
    rw [← hb]
    cases b
    · exact am_ifp rfl ⟨rfl, h'⟩
    · exact am_ifn (by decide) ⟨rfl, h'⟩
  generalize hb : opb (decide (¬ I 68 (60 + 3 * d) = 0)) (fun q => I 68 (10 + q)) (fun q => I 68 (18 + q)) (fun q => I 68 (42 + q)) m p d = b at fin
  have fin := fin b rfl
  cases b
  · exact am_ifp rfl fin
  · exact am_ifn (by decide) fin
