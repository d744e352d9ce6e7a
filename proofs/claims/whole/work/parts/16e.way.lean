/-! way, together -/
theorem door_ab {I : am_I} (h : PRd (I 1) (I 2) (I 3) (I 68)) : ∃ (n w : Nat) (a b : Nat → Nat), n ≤ 12 ∧ w < 2 ^ n ∧ I 1 2 = nI n ∧ I 68 0 = nI n ∧ I 1 3 = nI w ∧ (∀ d, d < n → I 68 (60 + 3 * d) = nI (bi w d) ∧ a d < 10 ∧ b d < 10 ∧ a d ≠ b d ∧ I 68 (58 + 3 * d) = nI (a d) ∧ I 68 (59 + 3 * d) = nI (b d)) ∧ ∀ d, d < n → I 2 d = nI (a d) ∧ I 3 d = nI (b d) ∧ a d < 10 ∧ b d < 10 := by
  obtain ⟨n, w, hn, hw, a1, a2, a3, hd⟩ := h
  have key : ∀ d, d < n → I 68 (60 + 3 * d) = nI (bi w d) ∧ Int32.toNatClampNeg (I 2 d) < 10 ∧ Int32.toNatClampNeg (I 3 d) < 10 ∧ Int32.toNatClampNeg (I 2 d) ≠ Int32.toNatClampNeg (I 3 d) ∧ I 68 (58 + 3 * d) = nI (Int32.toNatClampNeg (I 2 d)) ∧ I 68 (59 + 3 * d) = nI (Int32.toNatClampNeg (I 3 d)) ∧ I 2 d = nI (Int32.toNatClampNeg (I 2 d)) ∧ I 3 d = nI (Int32.toNatClampNeg (I 3 d)) := by
    intro d hdn
    obtain ⟨b1', a, b, ha, hb, hab, b2, b3, b4, b5⟩ := hd d hdn
    rw [b2, b3, nI_clamp (by omega), nI_clamp (by omega)]
    exact ⟨b1', ha, hb, hab, b4, b5, rfl, rfl⟩
  refine ⟨n, w, fun d => Int32.toNatClampNeg (I 2 d), fun d => Int32.toNatClampNeg (I 3 d), hn, hw, a1, a2, a3, fun d hdn => ?_, fun d hdn => ?_⟩
  · obtain ⟨k1, k2, k3, k4, k5, k6, _⟩ := key d hdn
    exact ⟨k1, k2, k3, k4, k5, k6⟩
  · obtain ⟨k1, k2, k3, k4, k5, k6, k7, k8⟩ := key d hdn
    exact ⟨k7, k8, k2, k3⟩
theorem ud_0 {ky w d : Nat} (hd : d < 32) : bi (ky &&& (w ^^^ 4294967295)) d = 1 ↔ ud ky 0 w d := by
  unfold ud
  rw [bi_1, Nat.testBit_and, Nat.testBit_xor, show (4294967295 : Nat) = 2 ^ 32 - 1 from rfl, Nat.testBit_two_pow_sub_one, bi_tb, bi_tb, bi_tb]
  cases ky.testBit d <;> cases w.testBit d <;> simp [hd]
/-- keys that one may use, on both sides -/
def kyo (R : Nat → Int32) (m p : Nat) : Nat := kun (fun q => R (18 + q)) (fun q => R (42 + q)) p m
theorem kyo_eq {c4 c5 c6 c7 c8 R : Nat → Int32} {m v p : Nat} (hpm : p < m) (hp : ∀ p, p < m → R (50 + p) = nI (bi v p) ∧ PRp c4 c5 c6 c7 c8 R p) : kun c7 c8 p m = kyo R m p := by
  refine kun_cong (k' := fun q => R (18 + q)) (t' := fun q => R (42 + q)) hpm (fun q hq => ?_) m (Nat.le_refl m)
  obtain ⟨_, y, w, a, k, t, _, _, _, _, _, _, _, _, _, q4, q5, _, _, _, s4, s5⟩ := hp q hq
  exact ⟨q4.trans s4.symm, q5.trans s5.symm⟩
theorem pp_k {c4 c5 c6 c7 c8 R : Nat → Int32} {m v : Nat} (hp : ∀ p, p < m → R (50 + p) = nI (bi v p) ∧ PRp c4 c5 c6 c7 c8 R p) : (∀ q, q < m → ∃ x, x < 4096 ∧ c7 q = nI x) ∧ (∀ q, q < m → ∃ x, x < 4096 ∧ R (18 + q) = nI x) ∧ ∀ q, q < m → ∃ x, x < 10 ∧ c6 q = nI x ∧ R (10 + q) = nI x := by
  refine ⟨fun q hq => ?_, fun q hq => ?_, fun q hq => ?_⟩
  · obtain ⟨_, y, w, a, k, t, _, _, _, _, hk, _, _, _, _, q4, q5, _, _, _, s4, s5⟩ := hp q hq
    exact ⟨k, hk, q4⟩
  · obtain ⟨_, y, w, a, k, t, _, _, _, _, hk, _, _, _, _, q4, q5, _, _, _, s4, s5⟩ := hp q hq
    exact ⟨k, hk, s4⟩
  · obtain ⟨_, y, w, a, k, t, _, _, _, ha, hk, _, _, _, q3, q4, q5, _, _, s3, s4, s5⟩ := hp q hq
    exact ⟨a, ha, q3, s3⟩
theorem q126b {I : am_I} {m n p w v x : Nat} {a b : Nat → Nat} {K : Int32 → Prop} (hm : m ≤ 8) (hpm : p < m) (hn : n ≤ 12) (em : I 1 10 = nI m) (en : I 1 2 = nI n) (ew : I 1 3 = nI w) (hx : x < 10) (ex : I 6 p = nI x) (hp : ∀ p, p < m → I 68 (50 + p) = nI (bi v p) ∧ PRp (I 4) (I 5) (I 6) (I 7) (I 8) (I 68) p) (hd : ∀ d, d < n → I 2 d = nI (a d) ∧ I 3 d = nI (b d) ∧ a d < 10 ∧ b d < 10)
    (hE : (∀ k, k < 10 → ¬ RK a b n (ud (kyo (I 68) m p) 0 w) x k 0) → K (-1)) (hR : ∀ k, k < 10 → RK a b n (ud (kyo (I 68) m p) 0 w) x k 0 → (∀ j, j < k → ¬ RK a b n (ud (kyo (I 68) m p) 0 w) x j 0) → K (nI k)) : w_126 (nI p) I K := by
  have ek := kyo_eq hpm hp
  have key : ∀ k, bi (rch (I 2) (I 3) (kun (I 7) (I 8) p m &&& (w ^^^ 4294967295)) n x k) 0 = 1 ↔ RK a b n (ud (kyo (I 68) m p) 0 w) x k 0 := by
    intro k
    rw [bi_1, rch_tb hd, ek]
    exact RK_cong (fun d hdn => ud_0 (by omega)) k 0
  have key0 : ∀ k, bi (rch (I 2) (I 3) (kun (I 7) (I 8) p m &&& (w ^^^ 4294967295)) n x k) 0 = 0 ↔ ¬ RK a b n (ud (kyo (I 68) m p) 0 w) x k 0 := by
    intro k
    rw [← key k]
    have bl := bi_lt (rch (I 2) (I 3) (kun (I 7) (I 8) p m &&& (w ^^^ 4294967295)) n x k) 0
    omega
  refine q126 hm hpm hn em en ew hx ex (pp_k hp).1 (fun d hdn => ?_) (fun z => hE (fun k hk => (key0 k).mp (z k hk))) (fun k hk z1 z2 => hR k hk ((key k).mp z1) (fun j hj => (key0 j).mp (z2 j hj)))
  obtain ⟨d1, d2, d3, d4⟩ := hd d hdn
  exact ⟨a d, b d, d3, d4, d1, d2⟩
theorem o_24 {D : am_P} (hD : FrD D) {N : Nat} {T : Nat → Nat × Nat} {r : Nat → Nat → Option Nat} {I : am_I} {L : am_J} (h : Inv D N T r I L) (x1 : Int32) : op_24 x1 (Inv D) N T r I L := by
  unfold op_24 w_125
  obtain ⟨m, v, hm, hv, e1, e2, e3, hp⟩ := h.1.2.1
  obtain ⟨n, w, a, b, hn, hw, d1, d2, d3, hdr, hdc⟩ := door_ab h.1.1
  rcases qm hm e1 e2 x1 with ⟨a1, a2, _⟩ | ⟨a1, a2, p, hpm, rfl⟩
  · rw [if_pos a1]
    show w_266 _ _ _
    unfold w_266
    exact am_ifp a2 ⟨rfl, inv_0 hD h⟩
  rw [if_neg (by rw [a1]; decide)]
  have b2 : ¬ f_192 (nI p) (am_u I 66 0 0) = 0 := by
    rw [show f_192 (nI p) (am_u I 66 0 0) = 1 from a2]
    decide
  obtain ⟨x, hx, x1', x2'⟩ := (pp_k hp).2.2 p hpm
  have e68 : am_u I 66 0 0 68 = I 68 := uu_h (by decide)
  have mdl : ∀ q : Int32, ((∀ k, k < 10 → ¬ RK a b n (ud (kyo (I 68) m p) 0 w) x k 0) → q = -1) → (∀ k, k < 10 → RK a b n (ud (kyo (I 68) m p) 0 w) x k 0 → (∀ j, j < k → ¬ RK a b n (ud (kyo (I 68) m p) 0 w) x j 0) → q = nI k) → w_266 (nI p) I (fun q2 I2 => q = q2 ∧ Inv D N T r I2 L) := by
    intro q g1 g2
    unfold w_266
    refine am_ifn b2 ?_
    refine q267 (I := am_u I 66 0 0) (s := 0) (w := w) (a := a) (b := b) (x := x) hm hpm hn hx (by decide) (by rw [e68]; exact e2) (by rw [e68]; exact d2) (by rw [e68]; exact x2') (by rw [e68]; exact (pp_k hp).2.1) (by rw [e68]; exact hdr) (fun J u hJ hu => ?_)
    rw [e68] at hu
    have iJ : Inv D N T r J L := inv_scr hD (inv_0 hD h) (fun c hc => hJ c (by omega))
    rcases hu with ⟨j, j1, j2, j3, j4⟩ | ⟨j1, j2⟩
    · refine am_ifn (by rw [j2]; exact far_ne (by omega)) ⟨?_, iJ⟩
      rw [j2]
      exact g2 j (by omega) j3 j4
    · exact am_ifp j1 ⟨g1 (fun k hk q => j2 (RK_le (by omega) q)), iJ⟩
  refine q126b hm hpm hn e1 d1 d3 hx x1' hp hdc (fun z => ?_) (fun k hk z1 z2 => ?_)
  · exact mdl _ (fun _ => rfl) (fun k hk z1 _ => absurd z1 (z k hk))
  · refine mdl _ (fun z => absurd z1 (z k hk)) (fun k' hk' z1' z2' => ?_)
    rcases Nat.lt_trichotomy k k' with c | c | c
    · exact absurd z1 (z2' k c)
    · rw [c]
    · exact absurd z1' (z2 k' c)
noncomputable def dcd (P : Prop) : Bool := @decide P (Classical.propDecidable P)
theorem dcd_t {P : Prop} (h : P) : dcd P = true := by
  unfold dcd
  exact @decide_eq_true P (Classical.propDecidable P) h
theorem dcd_f {P : Prop} (h : ¬ P) : dcd P = false := by
  unfold dcd
  exact @decide_eq_false P (Classical.propDecidable P) h
/-- one who is inside and has some way -/
def tgo (a b : Nat → Nat) (R : Nat → Int32) (n m w p : Nat) : Prop := ¬ R (10 + p) = 0 ∧ RK a b n (ud (kyo R m p) 0 w) (Int32.toNatClampNeg (R (10 + p))) 9 0
theorem l134 {I : am_I} {m n w v : Nat} {a b : Nat → Nat} {E : Int32 → Int32 → Prop} (hm : m ≤ 8) (hn : n ≤ 12) (em : I 1 10 = nI m) (en : I 1 2 = nI n) (ew : I 1 3 = nI w) (hp : ∀ p, p < m → I 68 (50 + p) = nI (bi v p) ∧ PRp (I 4) (I 5) (I 6) (I 7) (I 8) (I 68) p) (hd : ∀ d, d < n → I 2 d = nI (a d) ∧ I 3 d = nI (b d) ∧ a d < 10 ∧ b d < 10) (hE : E (nI (acc (fun p => dcd (tgo a b (I 68) n m w p)) m)) (nI m)) : ∀ k j, j + k = m → lw_134_4 (k + 1) (nI (acc (fun p => dcd (tgo a b (I 68) n m w p)) j)) (nI j) I E
  | 0, j, h => by
    have hj : j = m := by omega
    subst hj
    unfold lw_134_4
    rw [em, if_pos (nI_le (Nat.le_refl _) (by omega))]
    exact hE
  | k + 1, j, h => by
    have ih := l134 hm hn em en ew hp hd hE k (j + 1) (by omega)
    obtain ⟨x, hx, x1, x2⟩ := (pp_k hp).2.2 j (by omega)
    have ea : acc (fun p => dcd (tgo a b (I 68) n m w p)) (j + 1) = (if dcd (tgo a b (I 68) n m w j) = true then acc (fun p => dcd (tgo a b (I 68) n m w p)) j ||| 2 ^ j else acc (fun p => dcd (tgo a b (I 68) n m w p)) j) := rfl
    have tg : tgo a b (I 68) n m w j ↔ ¬ x = 0 ∧ RK a b n (ud (kyo (I 68) m j) 0 w) x 9 0 := by
      unfold tgo
      rw [x2, nI_clamp (by omega)]
      rw [show (nI x = 0 ↔ x = 0) from nb_inj (b := 0) (by omega) (by decide)]
    unfold lw_134_4
    rw [em, if_neg (nI_ge (by omega) (by omega))]
    have g8 : ¬ (nI j < 0 ∨ 8 ≤ Int32.toNatClampNeg (nI j)) := nb_gd (by omega) (by decide)
    refine ⟨g8, ?_⟩
    rw [nI_clamp (by omega : j < 2 ^ 31), x1, ← nI_succ]
    rw [ea] at ih
    by_cases c0 : x = 0
    · rw [if_pos (by rw [c0]; rfl)]
      rw [dcd_f (fun q => (tg.mp q).1 c0), if_neg (by decide)] at ih
      exact ih
    · rw [if_neg (nz0 (by omega) c0)]
      refine q126b hm (by omega) hn em en ew hx x1 hp hd (fun z => ?_) (fun k' hk' z1 z2 => ?_)
      · refine am_ifp rfl ?_
        rw [dcd_f (fun q => z 9 (by decide) (tg.mp q).2), if_neg (by decide)] at ih
        exact ih
      · refine am_ifn (nb_m1 (by omega)) ?_
        rw [dcd_t (tg.mpr ⟨c0, RK_le (by omega) z1⟩), if_pos rfl] at ih
        rw [q1s j (by omega), fa_or]
        exact ih
theorem l270 {I : am_I} {m n w v : Nat} {a b : Nat → Nat} {E : Int32 → Int32 → am_I → Prop} (hm : m ≤ 8) (hn : n ≤ 12) (em : I 68 1 = nI m) (en : I 68 0 = nI n) (hk : ∀ q, q < m → ∃ x, x < 4096 ∧ I 68 (18 + q) = nI x) (hx : ∀ q, q < m → ∃ x, x < 10 ∧ I 68 (10 + q) = nI x) (hd : ∀ d, d < n → I 68 (60 + 3 * d) = nI (bi w d) ∧ a d < 10 ∧ b d < 10 ∧ a d ≠ b d ∧ I 68 (58 + 3 * d) = nI (a d) ∧ I 68 (59 + 3 * d) = nI (b d)) (hE : ∀ J, (∀ c, c ≠ 87 → J c = I c) → E (nI (acc (fun p => dcd (tgo a b (I 68) n m w p)) m)) (nI m) J) : ∀ k j J, j + k = m → (∀ c, c ≠ 87 → J c = I c) → lw_270_9 (k + 1) (nI (acc (fun p => dcd (tgo a b (I 68) n m w p)) j)) (nI j) J E
  | 0, j, J, h, hJ => by
    have hj : j = m := by omega
    subst hj
    unfold lw_270_9
    rw [hJ 68 (by decide), em, if_pos (nI_le (Nat.le_refl _) (by omega))]
    exact hE J hJ
  | k + 1, j, J, h, hJ => by
    have ih := l270 (v := v) hm hn em en hk hx hd hE k (j + 1)
    obtain ⟨x, hx', x2⟩ := hx j (by omega)
    have J68 : J 68 = I 68 := hJ 68 (by decide)
    have ea : acc (fun p => dcd (tgo a b (I 68) n m w p)) (j + 1) = (if dcd (tgo a b (I 68) n m w j) = true then acc (fun p => dcd (tgo a b (I 68) n m w p)) j ||| 2 ^ j else acc (fun p => dcd (tgo a b (I 68) n m w p)) j) := rfl
    have tg : tgo a b (I 68) n m w j ↔ ¬ x = 0 ∧ RK a b n (ud (kyo (I 68) m j) 0 w) x 9 0 := by
      unfold tgo
      rw [x2, nI_clamp (by omega)]
      rw [show (nI x = 0 ↔ x = 0) from nb_inj (b := 0) (by omega) (by decide)]
    unfold lw_270_9
    rw [J68, em, if_neg (nI_ge (by omega) (by omega))]
    obtain ⟨g, c⟩ := ixa (a := 10) (n := j) (by omega)
    refine ⟨g, ?_⟩
    rw [show Int32.toNatClampNeg (10 + nI j) = 10 + j from c, x2, ← nI_succ]
    rw [ea] at ih
    have or0 : ∀ y : Nat, nI y ||| 0 = nI y := fun y => by
      rw [show (0 : Int32) = nI 0 from rfl, fa_or, Nat.or_zero]
    by_cases c0 : x = 0
    · rw [if_pos (by rw [c0]; rfl), or0]
      rw [dcd_f (fun q => (tg.mp q).1 c0), if_neg (by decide)] at ih
      exact ih J (by omega) hJ
    · rw [if_neg (nz0 (by omega) c0)]
      refine q267 (I := J) (s := 0) (w := w) (a := a) (b := b) (x := x) hm (by omega) hn hx' (by decide) (by rw [J68]; exact em) (by rw [J68]; exact en) (by rw [J68]; exact x2) (by rw [J68]; exact hk) (by rw [J68]; exact hd) (fun J' u hJ' hu => ?_)
      rw [J68] at hu
      have k1 : ∀ c, c ≠ 87 → J' c = I c := fun c hc => (hJ' c hc).trans (hJ c hc)
      rcases hu with ⟨i, j1, j2, j3, j4⟩ | ⟨j1, j2⟩
      · refine am_ifn (by rw [j2]; exact nI_ge (b := 100000000) (by omega) (by decide)) ?_
        rw [dcd_t (tg.mpr ⟨c0, RK_le (by omega) j3⟩), if_pos rfl] at ih
        rw [q1s j (by omega), fa_or]
        exact ih J' (by omega) k1
      · refine am_ifp (by rw [j1]; decide) ?_
        rw [dcd_f (fun q => j2 (tg.mp q).2), if_neg (by decide)] at ih
        rw [or0]
        exact ih J' (by omega) k1
theorem o_26 {D : am_P} (hD : FrD D) {N : Nat} {T : Nat → Nat × Nat} {r : Nat → Nat → Option Nat} {I : am_I} {L : am_J} (h : Inv D N T r I L) : op_26 (Inv D) N T r I L := by
  unfold op_26 w_134
  obtain ⟨m, v, hm, hv, e1, e2, e3, hp⟩ := h.1.2.1
  obtain ⟨n, w, a, b, hn, hw, d1, d2, d3, hdr, hdc⟩ := door_ab h.1.1
  refine ⟨m + 1, l134 hm hn e1 d1 d3 hp hdc ?_ m 0 (by omega)⟩
  show w_270 _ _
  unfold w_270
  have e68 : am_u I 66 0 0 68 = I 68 := uu_h (by decide)
  refine ⟨m + 1, l270 (I := am_u I 66 0 0) (v := v) (w := w) (a := a) (b := b) hm hn (by rw [e68]; exact e2) (by rw [e68]; exact d2) (by rw [e68]; exact (pp_k hp).2.1) (by
    rw [e68]
    intro q hq
    obtain ⟨x, hx, _, x2⟩ := (pp_k hp).2.2 q hq
    exact ⟨x, hx, x2⟩) (by rw [e68]; exact hdr) (fun J hJ => ?_) m 0 _ (by omega) (fun c _ => rfl)⟩
  rw [e68]
  exact ⟨rfl, inv_scr hD (inv_0 hD h) (fun c hc => hJ c (by omega))⟩
