/-! cut, by the class -/
theorem l131a {I : am_I} {U : Int32} {E : Int32 → am_I → Prop} (hE : ∀ J, (∀ c, c ≠ 57 → J c = I c) → (∀ y, y < 10 → J 57 y = 0) → E (nI 10) J) : ∀ q j J, j + q = 10 → (∀ c, c ≠ 57 → J c = I c) → (∀ y, y < j → J 57 y = 0) → lw_131_2 (q + 1) U (nI j) J E
  | 0, j, J, h, h1, h2 => by
    have hj : j = 10 := by omega
    subst hj
    unfold lw_131_2
    rw [if_pos (show (10 : Int32) ≤ nI 10 from nI_le (a := 10) (Nat.le_refl _) (by decide))]
    exact hE J h1 h2
  | q + 1, j, J, h, h1, h2 => by
    unfold lw_131_2
    rw [if_neg (show ¬ (10 : Int32) ≤ nI j from nI_ge (b := 10) (by omega) (by decide))]
    refine ⟨nb_gd (by omega) (by decide), ?_⟩
    rw [nI_clamp (by omega), ← nI_succ]
    refine l131a hE q (j + 1) _ (by omega) (fun c hc => by rw [uu_h hc]; exact h1 c hc) (fun y hy => ?_)
    by_cases e : y = j
    · subst e
      exact uu_e
    · rw [uu_n e]
      exact h2 y (by omega)
/-- doors at a place, of the first j -/
def daj (a b : Nat → Nat) (U y j : Nat) : Nat := acc (fun d => decide (bi U d = 1) && (decide (a d = y) || decide (b d = y))) j
theorem l131b {I : am_I} {U n : Nat} {a b : Nat → Nat} {E : Int32 → am_I → Prop} (hn : n ≤ 12) (hU : U < 2 ^ 31) (en : I 1 2 = nI n) (hd : ∀ d, d < n → I 2 d = nI (a d) ∧ I 3 d = nI (b d) ∧ a d < 10 ∧ b d < 10) (hab : ∀ d, d < n → a d ≠ b d) (hE : ∀ J, (∀ c, c ≠ 57 → J c = I c) → (∀ y, y < 10 → J 57 y = nI (dat a b U n y)) → E (nI n) J) : ∀ q j J, j + q = n → (∀ c, c ≠ 57 → J c = I c) → (∀ y, y < 10 → J 57 y = nI (daj a b U y j)) → lw_131_23 (q + 1) (nI U) (nI j) J E
  | 0, j, J, h, h1, h2 => by
    have hj : j = n := by omega
    subst hj
    unfold lw_131_23
    rw [h1 1 (by decide), en, if_pos (nI_le (Nat.le_refl _) (by omega))]
    exact hE J h1 h2
  | q + 1, j, J, h, h1, h2 => by
    have ih := l131b hn hU en hd hab hE q (j + 1)
    obtain ⟨ea, eb, ha, hb⟩ := hd j (by omega)
    have ne := hab j (by omega)
    unfold lw_131_23
    rw [h1 1 (by decide), en, if_neg (nI_ge (by omega) (by omega)), q20 hU (by omega), ← nI_succ]
    have bl := bi_lt U j
    have es : ∀ y, daj a b U y (j + 1) = (if (decide (bi U j = 1) && (decide (a j = y) || decide (b j = y))) = true then daj a b U y j ||| 2 ^ j else daj a b U y j) := fun y => rfl
    by_cases c : bi U j = 1
    · rw [if_pos (by rw [c]; rfl)]
      have g12 : ¬ (nI j < 0 ∨ 12 ≤ Int32.toNatClampNeg (nI j)) := nb_gd (by omega) (by decide)
      rw [nI_clamp (by omega : j < 2 ^ 31)] at g12 ⊢
      rw [h1 2 (by decide), h1 3 (by decide), ea, eb]
      have ga : ¬ (nI (a j) < 0 ∨ 10 ≤ Int32.toNatClampNeg (nI (a j))) := nb_gd ha (by decide)
      have gb : ¬ (nI (b j) < 0 ∨ 10 ≤ Int32.toNatClampNeg (nI (b j))) := nb_gd hb (by decide)
      refine ⟨g12, ga, ga, g12, gb, gb, ?_⟩
      rw [nI_clamp (by omega : a j < 2 ^ 31), nI_clamp (by omega : b j < 2 ^ 31), q1s j (by omega), h2 _ ha, fa_or]
      rw [uu_n (fun e => ne e.symm), h2 _ hb, fa_or]
      refine ih _ (by omega) (fun c hc => by rw [uu_h hc, uu_h hc]; exact h1 c hc) (fun y hy => ?_)
      rw [es, decide_eq_true c, Bool.true_and]
      by_cases yb : y = b j
      · subst yb
        rw [uu_e, if_pos (by simp)]
      · rw [uu_n yb]
        by_cases ya : y = a j
        · subst ya
          rw [uu_e, if_pos (by simp)]
        · rw [uu_n ya, if_neg (by simp [Ne.symm ya, Ne.symm yb])]
          exact h2 y hy
    · rw [if_neg (nz1 (by omega) c)]
      refine ih J (by omega) h1 (fun y hy => ?_)
      rw [es, decide_eq_false c, if_neg (by simp)]
      exact h2 y hy
theorem q131 {I : am_I} {U n : Nat} {a b : Nat → Nat} {K : am_I → Prop} (hn : n ≤ 12) (hU : U < 2 ^ 31) (en : I 1 2 = nI n) (hd : ∀ d, d < n → I 2 d = nI (a d) ∧ I 3 d = nI (b d) ∧ a d < 10 ∧ b d < 10) (hab : ∀ d, d < n → a d ≠ b d) (hK : ∀ J, (∀ c, c ≠ 57 → J c = I c) → (∀ y, y < 10 → J 57 y = nI (dat a b U n y)) → K J) : w_131 (nI U) I K := by
  unfold w_131
  refine ⟨11, l131a (I := I) (fun J h1 h2 => ?_) 10 0 I (by omega) (fun c _ => rfl) (fun y hy => absurd hy (by omega))⟩
  refine ⟨n + 1, l131b (I := I) (a := a) (b := b) (E := fun _ I4 => K I4) hn hU en hd hab hK n 0 J (by omega) h1 (fun y hy => h2 y hy)⟩
theorem l132 {I : am_I} {U n x : Nat} {a b : Nat → Nat} {E : Int32 → Int32 → am_I → Prop} (hx : x < 10) (hn : n ≤ 12) (h57 : ∀ y, y < 10 → I 57 y = nI (dat a b U n y)) (hE : ∀ J, (∀ c, c ≠ 58 → J c = I c) → (∀ y, y < 10 → btw a b U n x y = true → J 58 (fb_ct (btw a b U n x) y) = nI y) → E (nI (fb_ct (btw a b U n x) 10)) (nI 10) J) : ∀ q j J, j + q = 10 → 1 ≤ j → (∀ c, c ≠ 58 → J c = I c) → (∀ y, y < j → btw a b U n x y = true → J 58 (fb_ct (btw a b U n x) y) = nI y) → lw_132_4 (q + 1) (nI x) (nI (fb_ct (btw a b U n x) j)) (nI j) J E
  | 0, j, J, h, h0, h1, h2 => by
    have hj : j = 10 := by omega
    subst hj
    unfold lw_132_4
    rw [if_pos (show (10 : Int32) ≤ nI 10 from nI_le (a := 10) (Nat.le_refl _) (by decide))]
    exact hE J h1 h2
  | q + 1, j, J, h, h0, h1, h2 => by
    have ih := l132 (x := x) hx hn h57 hE q (j + 1)
    have cl := fb_ct_le (btw a b U n x) j
    unfold lw_132_4
    rw [if_neg (show ¬ (10 : Int32) ≤ nI j from nI_ge (b := 10) (by omega) (by decide)), ← nI_succ]
    rw [fb_ct_succ] at ih
    have no : btw a b U n x j = false → lw_132_4 (q + 1) (nI x) (nI (fb_ct (btw a b U n x) j)) (nI (j + 1)) J E := by
      intro hb
      rw [hb] at ih
      refine ih J (by omega) (by omega) h1 (fun y hy hby => ?_)
      by_cases e : y = j
      · subst e
        rw [hb] at hby
        cases hby
      · exact h2 y (by omega) hby
    have bj : btw a b U n x j = (!decide (j = x) && !decide (dat a b U n j = 0)) := by
      unfold btw
      rw [decide_eq_true h0, Bool.true_and]
    by_cases c1 : j = x
    · rw [if_pos (by rw [c1])]
      exact no (by rw [bj, decide_eq_true c1]; rfl)
    · rw [if_neg (fun e => c1 ((nb_inj (by omega) (by omega)).mp e))]
      have g10 : ¬ (nI j < 0 ∨ 10 ≤ Int32.toNatClampNeg (nI j)) := nb_gd (by omega) (by decide)
      refine ⟨g10, ?_⟩
      rw [nI_clamp (by omega : j < 2 ^ 31), h1 57 (by decide), h57 j (by omega)]
      have dl : dat a b U n j < 2 ^ 12 := Nat.lt_of_lt_of_le (acc_lt _ n) (Nat.pow_le_pow_right (by decide) hn)
      by_cases c2 : dat a b U n j = 0
      · rw [if_pos (by rw [c2]; rfl)]
        exact no (by rw [bj, decide_eq_true c2, Bool.not_true, Bool.and_false])
      · rw [if_neg (nz0 (by omega) c2)]
        have hb : btw a b U n x j = true := by
          rw [bj, decide_eq_false c1, decide_eq_false c2]
          rfl
        refine ⟨nb_gd (by omega) (by decide), ?_⟩
        rw [nI_clamp (by omega), ← nI_succ]
        rw [hb] at ih
        refine ih _ (by omega) (by omega) (fun c hc => by rw [uu_h hc]; exact h1 c hc) (fun y hy hby => ?_)
        by_cases e : y = j
        · subst e
          exact uu_e
        · have mono := fb_ct_mono (btw a b U n x) (show y + 1 ≤ j by omega)
          rw [fb_ct_succ, hby] at mono
          simp only [if_true] at mono
          rw [uu_n (by omega)]
          exact h2 y (by omega) hby
theorem q132 {I : am_I} {U n x : Nat} {a b : Nat → Nat} {K : Int32 → am_I → Prop} (hx : x < 10) (hn : n ≤ 12) (h57 : ∀ y, y < 10 → I 57 y = nI (dat a b U n y)) (hK : ∀ J, (∀ c, c ≠ 58 → J c = I c) → (∀ y, y < 10 → btw a b U n x y = true → J 58 (fb_ct (btw a b U n x) y) = nI y) → K (nI (fb_ct (btw a b U n x) 10)) J) : w_132 (nI x) I K := by
  unfold w_132
  have b0 : btw a b U n x 0 = false := rfl
  have e1 : fb_ct (btw a b U n x) 1 = 0 := by
    rw [fb_ct_succ, b0]
    rfl
  have z := l132 (I := I) (U := U) (a := a) (b := b) (E := fun o1 _ I3 => K o1 I3) hx hn h57 hK 9 1 I (by omega) (by omega) (fun c _ => rfl) (fun y hy hb => by
    rw [show y = 0 by omega, b0] at hb
    cases hb)
  rw [e1] at z
  exact ⟨10, z⟩
/-! the order of the sets of places: each differs from the one ahead by one place -/
def gr (i : Nat) : Nat := i ^^^ (i / 2)
def nz (i : Nat) : Nat := fa_first (fun k => i.testBit k) 10
def gv (g : Nat) : Nat := g ^^^ (g / 2) ^^^ (g / 4) ^^^ (g / 8) ^^^ (g / 16) ^^^ (g / 32) ^^^ (g / 64) ^^^ (g / 128) ^^^ (g / 256) ^^^ (g / 512)
def grk (i : Nat) : Bool := decide (1 ≤ i → f_133 (nI i) = nI (nz i) ∧ gr i = gr (i - 1) ^^^ 2 ^ nz i ∧ 2 ^ nz i ≤ i ∧ nz i < 10)
theorem gr_all : ∀ a, a < 32 → ∀ b, b < 32 → grk (32 * a + b) = true := by decide +kernel
theorem gr_i {i : Nat} (h0 : 1 ≤ i) (hi : i < 1024) : f_133 (nI i) = nI (nz i) ∧ gr i = gr (i - 1) ^^^ 2 ^ nz i ∧ 2 ^ nz i ≤ i ∧ nz i < 10 := by
  have h := gr_all (i / 32) (by omega) (i % 32) (by omega)
  rw [show 32 * (i / 32) + i % 32 = i by omega] at h
  unfold grk at h
  exact of_decide_eq_true h h0
def gvk (g : Nat) : Bool := decide (gr (gv g) = g) && (List.range 11).all (fun k => decide (g < 2 ^ k → gv g < 2 ^ k))
theorem gv_all : ∀ a, a < 32 → ∀ b, b < 32 → gvk (32 * a + b) = true := by decide +kernel
theorem gv_g {g k : Nat} (hk : k ≤ 10) (hg : g < 2 ^ k) : gr (gv g) = g ∧ gv g < 2 ^ k := by
  have p : 2 ^ k ≤ 2 ^ 10 := Nat.pow_le_pow_right (by decide) hk
  have h := gv_all (g / 32) (by omega) (g % 32) (by omega)
  rw [show 32 * (g / 32) + g % 32 = g by omega] at h
  unfold gvk at h
  rw [Bool.and_eq_true] at h
  refine ⟨of_decide_eq_true h.1, ?_⟩
  have q := List.all_eq_true.mp h.2 k (List.mem_range.mpr (by omega))
  exact of_decide_eq_true q hg
theorem l130 {I : am_I} {U n x : Nat} {a b : Nat → Nat} {E : Int32 → Int32 → Int32 → Prop} (hx : x < 10) (hn : n ≤ 12) (hab : ∀ d, d < n → a d ≠ b d) (h57 : ∀ y, y < 10 → I 57 y = nI (dat a b U n y)) (h58 : ∀ y, y < 10 → btw a b U n x y = true → I 58 (fb_ct (btw a b U n x) y) = nI y)
    (hE : ∀ v B, (∃ g, B = prt a b U n x g) → (∀ g, g < 2 ^ fb_ct (btw a b U n x) 10 → le2 B (prt a b U n x g)) → E v (nI B) (nI (2 ^ fb_ct (btw a b U n x) 10))) : ∀ q i B, i + q = 2 ^ fb_ct (btw a b U n x) 10 → 1 ≤ i → (∃ g, B = prt a b U n x g) → (∀ j, j < i → le2 B (prt a b U n x (gr j))) → lw_130_41 (q + 1) (nI (fb_ct (btw a b U n x) 10)) (nI (prt a b U n x (gr (i - 1)))) (nI B) (nI i) I E
  | 0, i, B, h, h0, hB, hm => by
    have ml := fb_ct_le (btw a b U n x) 10
    have p : 2 ^ fb_ct (btw a b U n x) 10 ≤ 2 ^ 10 := Nat.pow_le_pow_right (by decide) ml
    have hj : i = 2 ^ fb_ct (btw a b U n x) 10 := by omega
    unfold lw_130_41
    rw [q1s _ (by omega), if_pos (nI_le (by omega) (by omega)), hj]
    refine hE _ B hB (fun g hg => ?_)
    obtain ⟨g1, g2⟩ := gv_g ml hg
    have r := hm (gv g) (by omega)
    rw [g1] at r
    exact r
  | q + 1, i, B, h, h0, hB, hm => by
    have ml := fb_ct_le (btw a b U n x) 10
    have p : 2 ^ fb_ct (btw a b U n x) 10 ≤ 2 ^ 10 := Nat.pow_le_pow_right (by decide) ml
    obtain ⟨k1, k2, k3, k4⟩ := gr_i h0 (show i < 1024 by omega)
    have nl : nz i < fb_ct (btw a b U n x) 10 := by
      rcases Nat.lt_or_ge (nz i) (fb_ct (btw a b U n x) 10) with c | c
      · exact c
      · have := Nat.pow_le_pow_right (n := 2) (by decide) c
        omega
    obtain ⟨y, y1, y2, y3⟩ := fb_ct_kth nl
    have e58 : I 58 (nz i) = nI y := by
      rw [← y3]
      exact h58 y y1 y2
    have ep : nI (prt a b U n x (gr (i - 1))) ^^^ I 57 y = nI (prt a b U n x (gr i)) := by
      rw [h57 y y1, nx_xor, ← prt_fl hab y2, y3, ← k2]
    have P : 2 ^ n ≤ 2 ^ 12 := Nat.pow_le_pow_right (by decide) hn
    have pl := prt_lt a b U n x (gr i)
    obtain ⟨gB, hgB⟩ := hB
    have Bl : B < 2 ^ n := by
      rw [hgB]
      exact prt_lt a b U n x gB
    have c1 := pc_le (prt a b U n x (gr i))
    have c2 := pc_le B
    unfold lw_130_41
    rw [q1s _ (by omega), if_neg (nI_ge (by omega) (by omega)), k1]
    refine ⟨nb_gd k4 (by decide), ?_⟩
    rw [nI_clamp (by omega : nz i < 2 ^ 31), e58]
    refine ⟨nb_gd y1 (by decide), ?_⟩
    rw [nI_clamp (by omega : y < 2 ^ 31), ep, q111 (by omega), q111 (by omega), ← nI_succ]
    have ih := fun B' h1 h2 => l130 hx hn hab h57 h58 hE q (i + 1) B' (by omega) (by omega) h1 h2
    rw [show i + 1 - 1 = i by omega] at ih
    have keep : le2 B (prt a b U n x (gr i)) → lw_130_41 (q + 1) (nI (fb_ct (btw a b U n x) 10)) (nI (prt a b U n x (gr i))) (nI B) (nI (i + 1)) I E := by
      intro hl
      refine ih B ⟨gB, hgB⟩ (fun j hj => ?_)
      by_cases e : j = i
      · rw [e]
        exact hl
      · exact hm j (by omega)
    have take : le2 (prt a b U n x (gr i)) B → lw_130_41 (q + 1) (nI (fb_ct (btw a b U n x) 10)) (nI (prt a b U n x (gr i))) (nI (prt a b U n x (gr i))) (nI (i + 1)) I E := by
      intro hl
      refine ih _ ⟨gr i, rfl⟩ (fun j hj => ?_)
      by_cases e : j = i
      · rw [e]
        exact le2_rf _
      · exact le2_tr hl (hm j (by omega))
    have lt0 : (nI (pc (prt a b U n x (gr i))) - nI (pc B)) < 0 ↔ pc (prt a b U n x (gr i)) < pc B := by
      rw [Int32.lt_iff_toInt_lt, fb_subI (by rw [nI_toInt (by omega), nI_toInt (by omega)]; omega) (by rw [nI_toInt (by omega), nI_toInt (by omega)]; omega), nI_toInt (by omega), nI_toInt (by omega), Int32.toInt_zero]
      omega
    have eq0 : (nI (pc (prt a b U n x (gr i))) - nI (pc B)) = 0 ↔ pc (prt a b U n x (gr i)) = pc B := by
      rw [fa_eq, fb_subI (by rw [nI_toInt (by omega), nI_toInt (by omega)]; omega) (by rw [nI_toInt (by omega), nI_toInt (by omega)]; omega), nI_toInt (by omega), nI_toInt (by omega), Int32.toInt_zero]
      omega
    by_cases d1 : pc (prt a b U n x (gr i)) < pc B
    · rw [if_pos (lt0.mpr d1)]
      exact take (Or.inl d1)
    · rw [if_neg (fun q => d1 (lt0.mp q))]
      by_cases d2 : pc (prt a b U n x (gr i)) = pc B
      · rw [if_pos (eq0.mpr d2)]
        by_cases d3 : B ≤ prt a b U n x (gr i)
        · rw [if_pos (nI_le d3 (by omega))]
          exact keep (Or.inr ⟨d2.symm, d3⟩)
        · rw [if_neg (fun q => d3 ((nb_le (by omega) (by omega)).mp q))]
          exact take (Or.inr ⟨d2, by omega⟩)
      · rw [if_neg (fun q => d2 (eq0.mp q))]
        exact keep (Or.inl (by omega))
/-- the fewest walls, by the class -/
theorem q130 {I : am_I} {m n p w v x : Nat} {a b : Nat → Nat} {K : Int32 → am_I → Prop} (hm : m ≤ 8) (hpm : p < m) (hn : n ≤ 12) (em : I 1 10 = nI m) (en : I 1 2 = nI n) (ew : I 1 3 = nI w) (hx : x < 10) (ex : I 6 p = nI x) (hp : ∀ p, p < m → I 68 (50 + p) = nI (bi v p) ∧ PRp (I 4) (I 5) (I 6) (I 7) (I 8) (I 68) p) (hd : ∀ d, d < n → I 2 d = nI (a d) ∧ I 3 d = nI (b d) ∧ a d < 10 ∧ b d < 10) (hab : ∀ d, d < n → a d ≠ b d)
    (hK : ∀ J B, (∀ c, c ≠ 57 → c ≠ 58 → J c = I c) → (∃ g, B = prt a b (kyo (I 68) m p &&& (w ^^^ 4294967295)) n x g) → (∀ g, g < 2 ^ fb_ct (btw a b (kyo (I 68) m p &&& (w ^^^ 4294967295)) n x) 10 → le2 B (prt a b (kyo (I 68) m p &&& (w ^^^ 4294967295)) n x g)) → K (nI B) J) : w_130 (nI p) I K := by
  unfold w_130
  have ek := kyo_eq hpm hp
  have kl := kun_lt (t := I 8) hpm (pp_k hp).1 m (Nat.le_refl m)
  have ul : kun (I 7) (I 8) p m &&& (w ^^^ 4294967295) < 2 ^ 31 := Nat.lt_of_le_of_lt Nat.and_le_left (by omega)
  refine q127 hm hpm em ew (pp_k hp).1 ?_
  rw [ek] at ul ⊢
  refine q131 hn ul en hd hab (fun J1 h1 h2 => ?_)
  have g8 : ¬ (nI p < 0 ∨ 8 ≤ Int32.toNatClampNeg (nI p)) := nb_gd (by omega) (by decide)
  refine ⟨g8, ?_⟩
  rw [nI_clamp (by omega : p < 2 ^ 31), h1 6 (by decide), ex]
  refine q132 hx hn h2 (fun J2 h3 h4 => ?_)
  rw [h3 6 (by decide), h1 6 (by decide), ex]
  rw [nI_clamp (by omega : p < 2 ^ 31)] at g8
  refine ⟨g8, nb_gd hx (by decide), ?_⟩
  rw [nI_clamp (by omega : x < 2 ^ 31), h3 57 (by decide), h2 x hx, ← prt_0 hab]
  have p1 : 1 ≤ 2 ^ fb_ct (btw a b (kyo (I 68) m p &&& (w ^^^ 4294967295)) n x) 10 := Nat.one_le_two_pow
  refine ⟨2 ^ fb_ct (btw a b (kyo (I 68) m p &&& (w ^^^ 4294967295)) n x) 10 - 1 + 1, ?_⟩
  refine l130 (I := J2) (x := x) (E := fun _ o6 _ => K o6 J2) hx hn hab (fun y hy => by rw [h3 57 (by decide)]; exact h2 y hy) h4 (fun _ B b1' b2 => hK J2 B (fun c c1 c2 => (h3 c c2).trans (h1 c c1)) b1' b2) _ 1 _ (by omega) (by omega) ⟨0, rfl⟩ (fun j hj => ?_)
  rw [show j = 0 by omega]
  exact le2_rf _
