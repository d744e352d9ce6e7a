/-! next, by the class -/
def FO (F : Nat → Bool) (m x : Nat) : Bool := F (2 ^ m - 1 - x)
theorem l161a {I : am_I} {E : Int32 → am_I → Prop} (hE : ∀ J, (∀ c, c ≠ 61 → J c = I c) → (∀ i, i < 2304 → J 61 i = 0) → E (nI 2304) J) : ∀ q j J, j + q = 2304 → (∀ c, c ≠ 61 → J c = I c) → (∀ i, i < j → J 61 i = 0) → lw_161_2 (q + 1) (nI j) J E
  | 0, j, J, h, h1, h2 => by
    have hj : j = 2304 := by omega
    subst hj
    unfold lw_161_2
    rw [if_pos (show Int32.ofNat 2304 ≤ nI 2304 from nI_le (a := 2304) (Nat.le_refl _) (by decide))]
    exact hE J h1 h2
  | q + 1, j, J, h, h1, h2 => by
    unfold lw_161_2
    rw [if_neg (show ¬ Int32.ofNat 2304 ≤ nI j from nI_ge (b := 2304) (by omega) (by decide))]
    refine ⟨nb_gd (by omega) (by decide), ?_⟩
    rw [nI_clamp (by omega), ← nI_succ]
    refine l161a hE q (j + 1) _ (by omega) (fun c hc => by rw [uu_h hc]; exact h1 c hc) (fun y hy => ?_)
    by_cases e : y = j
    · subst e
      exact uu_e
    · rw [uu_n e]
      exact h2 y (by omega)
theorem ev_x {m s : Nat} (hm : m ≤ 8) (hs : s < 2 ^ m) : (2 ^ m - 1) &&& (s ^^^ 4294967295) = 2 ^ m - 1 - s := by
  refine Nat.eq_of_testBit_eq (fun i => ?_)
  rw [Nat.testBit_and, sub_x hs, Nat.testBit_xor, Nat.testBit_two_pow_sub_one, show (4294967295 : Nat) = 2 ^ 32 - 1 from rfl, Nat.testBit_two_pow_sub_one]
  by_cases l : i < m
  · rw [decide_eq_true l, decide_eq_true (by omega)]
    cases s.testBit i <;> rfl
  · rw [decide_eq_false l]
    rfl
theorem l161b {I : am_I} {F : Nat → Bool} {m : Nat} {E : Int32 → am_I → Prop} (hm : m ≤ 8) (em : I 1 10 = nI m) (e59 : I 59 1 = nI (fb_ct F (2 ^ m))) (e60 : ∀ s, s < 2 ^ m → F s = true → I 60 (fb_ct F s) = nI s) (hE : ∀ J, (∀ c, c ≠ 61 → J c = I c) → (∀ x k, x < 2 ^ m → k ≤ 8 → J 61 (x * 9 + k) = nI (cA (FO F m) m 0 x k)) → E (nI (fb_ct F (2 ^ m))) J) : ∀ q i J, i + q = fb_ct F (2 ^ m) → (∀ c, c ≠ 61 → J c = I c) → (∀ x k, x < 2 ^ m → k ≤ 8 → J 61 (x * 9 + k) = nI (if k = 0 ∧ FO F m x = true ∧ fb_ct F (2 ^ m - 1 - x) < i then 1 else 0)) → lw_161_26 (q + 1) (nI i) J E
  | 0, i, J, h, h1, h2 => by
    have p2 : 2 ^ m ≤ 256 := Nat.pow_le_pow_right (n := 2) (j := 8) (by decide) hm
    have p1 := Nat.two_pow_pos m
    have cl := fb_ct_le F (2 ^ m)
    have hj : i = fb_ct F (2 ^ m) := by omega
    subst hj
    unfold lw_161_26
    rw [h1 59 (by decide), e59, if_pos (nI_le (Nat.le_refl _) (by omega))]
    refine hE J h1 (fun x k hx hk => ?_)
    rw [h2 x k hx hk, cA_st hx]
    by_cases k0 : k = 0
    · rw [if_pos k0]
      by_cases f : FO F m x = true
      · have mono := fb_ct_mono F (show (2 ^ m - 1 - x) + 1 ≤ 2 ^ m by omega)
        rw [fb_ct_succ, show F (2 ^ m - 1 - x) = true from f] at mono
        simp only [if_true] at mono
        rw [if_pos f, if_pos ⟨k0, f, by omega⟩]
      · rw [if_neg f, if_neg (fun q => f q.2.1)]
    · rw [if_neg k0, if_neg (fun q => k0 q.1)]
  | q + 1, i, J, h, h1, h2 => by
    have p2 : 2 ^ m ≤ 256 := Nat.pow_le_pow_right (n := 2) (j := 8) (by decide) hm
    have p1 := Nat.two_pow_pos m
    have cl := fb_ct_le F (2 ^ m)
    obtain ⟨s, s1, s2, s3⟩ := fb_ct_kth (p := F) (k := i) (n := 2 ^ m) (by omega)
    unfold lw_161_26
    rw [h1 59 (by decide), e59, if_neg (nI_ge (by omega) (by omega))]
    refine ⟨nb_gd (by omega) (by decide), ?_⟩
    have es : J 60 i = nI s := by
      rw [h1 60 (by decide), ← s3]
      exact e60 s s1 s2
    have x0 : (f_153 J &&& (J 60 (Int32.toNatClampNeg (nI i)) ^^^ (-1))) * 9 = nI ((2 ^ m - 1 - s) * 9) := by
      rw [nI_clamp (by omega : i < 2 ^ 31), es, q153 hm (by rw [h1 1 (by decide)]; exact em), show (-1 : Int32) = nI 4294967295 from rfl, nx_xor, nx_and, ev_x hm s1]
      exact nb_mul _ 9
    refine ⟨nb_gdx x0 (by omega) (by decide), ?_⟩
    rw [nb_cl x0 (by omega), ← nI_succ]
    refine l161b hm em e59 e60 hE q (i + 1) _ (by omega) (fun c hc => by rw [uu_h hc]; exact h1 c hc) (fun x k hx hk => ?_)
    by_cases e : x * 9 + k = (2 ^ m - 1 - s) * 9
    · have ex : x = 2 ^ m - 1 - s := by omega
      have ek : k = 0 := by omega
      have es' : 2 ^ m - 1 - x = s := by omega
      rw [e, uu_e, if_pos ⟨ek, by unfold FO; rw [es']; exact s2, by rw [es', s3]; omega⟩]
      rfl
    · rw [uu_n e, h2 x k hx hk]
      by_cases c : k = 0 ∧ FO F m x = true ∧ fb_ct F (2 ^ m - 1 - x) < i
      · rw [if_pos c, if_pos ⟨c.1, c.2.1, by omega⟩]
      · rw [if_neg c, if_neg]
        rintro ⟨c1, c2, c3⟩
        by_cases c4 : fb_ct F (2 ^ m - 1 - x) = i
        · have q := fb_ct_kth_one (p := F) c2 s2 (c4.trans s3.symm)
          omega
        · exact c ⟨c1, c2, by omega⟩
theorem l162 {I : am_I} {F : Nat → Bool} {m p g h : Nat} {E : Int32 → am_I → Prop} (hp : p < m) (hm : m ≤ 8) (hg : g < 2 ^ m) (hh : h = g ||| 2 ^ p) (hb : bi g p = 0) (hgh : g ≠ h) (hl : h < 2 ^ m) (e1 : ∀ k, k ≤ 8 → I 61 (g * 9 + k) = nI (cA F m p g k) ∧ I 61 (h * 9 + k) = nI (cA F m p h k)) (hE : ∀ J v, (∀ c, c ≠ 61 → J c = I c) → (∀ i, (∀ k, k ≤ 8 → i ≠ g * 9 + k ∧ i ≠ h * 9 + k) → J 61 i = I 61 i) → (∀ k, k ≤ 8 → J 61 (g * 9 + k) = nI (cA F m (p + 1) g k) ∧ J 61 (h * 9 + k) = nI (cA F m (p + 1) h k)) → E v J) : ∀ i J w, w = nI i + (-1) → i ≤ p + 2 → (∀ c, c ≠ 61 → J c = I c) → (∀ i, (∀ k, k ≤ 8 → i ≠ g * 9 + k ∧ i ≠ h * 9 + k) → J 61 i = I 61 i) → (∀ k, k ≤ 8 → (k < i → J 61 (g * 9 + k) = nI (cA F m p g k) ∧ J 61 (h * 9 + k) = nI (cA F m p h k)) ∧ (i ≤ k → J 61 (g * 9 + k) = nI (cA F m (p + 1) g k) ∧ J 61 (h * 9 + k) = nI (cA F m (p + 1) h k))) → lw_162_3 (i + 1) (nI (g * 9)) (nI (h * 9)) w J E
  | 0, J, w, hw, hi, h1, h2, h3 => by
    unfold lw_162_3
    rw [if_pos (by rw [hw]; decide)]
    exact hE J _ h1 h2 (fun k hk => (h3 k hk).2 (by omega))
  | i + 1, J, w, hw, hi, h1, h2, h3 => by
    have p2 : 2 ^ m ≤ 256 := Nat.pow_le_pow_right (n := 2) (j := 8) (by decide) hm
    have e : w = nI i := by
      rw [hw, Int32.add_neg_eq_sub]
      exact nb_sub (a := i + 1) (b := 1) (by omega)
    unfold lw_162_3
    rw [e, if_neg (nI_pos (by omega)), nb_add, nb_add]
    have g1 : ¬ (nI (g * 9 + i) < 0 ∨ 2304 ≤ Int32.toNatClampNeg (nI (g * 9 + i))) := nb_gd (by omega) (by decide)
    have g2 : ¬ (nI (h * 9 + i) < 0 ∨ 2304 ≤ Int32.toNatClampNeg (nI (h * 9 + i))) := nb_gd (by omega) (by decide)
    refine ⟨g1, g2, g1, ?_⟩
    rw [nI_clamp (by omega : g * 9 + i < 2 ^ 31), nI_clamp (by omega : h * 9 + i < 2 ^ 31)]
    obtain ⟨o1, o2⟩ := (h3 i (by omega)).1 (by omega)
    have c0 := cA_0 (F := F) (m := m) (k := i) hb
    have c1 := cA_1 (F := F) (m := m) (k := i) hb
    rw [← hh] at c0 c1
    have ih := l162 (E := E) hp hm hg hh hb hgh hl e1 hE i
    generalize hq : nI i + (-1) = w'
    have fin : ∀ v, v = nI (cA F m (p + 1) h i) → lw_162_3 (i + 1) (nI (g * 9)) (nI (h * 9)) w' (am_u (am_u J 61 (g * 9 + i) (nI (cA F m p g i) + nI (cA F m p h i))) 61 (h * 9 + i) v) E := by
      intro v hv
      refine ih _ w' hq.symm (by omega) (fun c hc => by rw [uu_h hc, uu_h hc]; exact h1 c hc) (fun j hj => ?_) (fun k hk => ⟨fun l => ?_, fun l => ?_⟩)
      · have q := hj i (by omega)
        rw [uu_n q.2, uu_n q.1]
        exact h2 j hj
      · obtain ⟨r1, r2⟩ := (h3 k hk).1 (by omega)
        constructor
        · rw [uu_n (by omega), uu_n (by omega)]
          exact r1
        · rw [uu_n (by omega), uu_n (by omega)]
          exact r2
      · by_cases ek : k = i
        · subst ek
          constructor
          · rw [uu_n (by omega), uu_e, c0, nb_add]
          · rw [uu_e, hv]
        · obtain ⟨r1, r2⟩ := (h3 k hk).2 (by omega)
          constructor
          · rw [uu_n (by omega), uu_n (by omega)]
            exact r1
          · rw [uu_n (by omega), uu_n (by omega)]
            exact r2
    rw [o1, o2]
    by_cases i0 : i = 0
    · rw [if_pos (show nI i ≤ 0 from nI_le (b := 0) (by omega) (by decide))]
      refine ⟨?_, fin _ ?_⟩
      · rw [nI_clamp (by omega : h * 9 + i < 2 ^ 31)] at g2
        exact g2
      · rw [c1, if_neg (by omega), Nat.add_zero]
    · rw [if_neg (show ¬ nI i ≤ 0 from nI_ge (a := 0) (by omega) (by omega))]
      have x1 : nI (h * 9 + i) - 1 = nI (h * 9 + (i - 1)) := by
        rw [show h * 9 + (i - 1) = h * 9 + i - 1 by omega]
        exact nb_sub (b := 1) (by omega)
      rw [x1]
      refine ⟨nb_gd (by omega) (by decide), ?_, ?_⟩
      · rw [nI_clamp (by omega : h * 9 + i < 2 ^ 31)] at g2
        exact g2
      · rw [nI_clamp (by omega : h * 9 + (i - 1) < 2 ^ 31), uu_n (by omega), ((h3 (i - 1) (by omega)).1 (by omega)).2]
        refine fin _ ?_
        rw [c1, if_pos (by omega), nb_add]
theorem l161c {I : am_I} {F : Nat → Bool} {m p : Nat} {E : Int32 → am_I → Prop} (hp : p < m) (hm : m ≤ 8) (em : I 1 10 = nI m) (hE : ∀ J, (∀ c, c ≠ 61 → J c = I c) → (∀ g k, g < 2 ^ m → k ≤ 8 → J 61 (g * 9 + k) = nI (cA F m (p + 1) g k)) → E (nI (2 ^ m)) J) : ∀ q G J, G + q = 2 ^ m → (∀ c, c ≠ 61 → J c = I c) → (∀ g k, g < 2 ^ m → k ≤ 8 → J 61 (g * 9 + k) = nI (cA F m (if sb g p 0 < G then p + 1 else p) g k)) → lw_161_74 (q + 1) (nI p) (nI G) J E
  | 0, G, J, h, h1, h2 => by
    have p2 : 2 ^ m ≤ 256 := Nat.pow_le_pow_right (n := 2) (j := 8) (by decide) hm
    have p1 := Nat.two_pow_pos m
    have hj : G = 2 ^ m := by omega
    subst hj
    unfold lw_161_74
    rw [q153 hm (by rw [h1 1 (by decide)]; exact em), if_pos (nI_lt (by omega) (by omega))]
    refine hE J h1 (fun g k hg hk => ?_)
    rw [h2 g k hg hk, if_pos (sb_lt hg hp (by omega) (by decide))]
  | q + 1, G, J, h, h1, h2 => by
    have p2 : 2 ^ m ≤ 256 := Nat.pow_le_pow_right (n := 2) (j := 8) (by decide) hm
    have ih := l161c (F := F) hp hm em hE q (G + 1)
    unfold lw_161_74
    rw [q153 hm (by rw [h1 1 (by decide)]; exact em), if_neg (nI_nlt (by omega) (by omega)), q20 (by omega) (by omega), ← nI_succ G]
    have bl := bi_lt G p
    by_cases c : bi G p = 0
    · rw [if_pos (by rw [c]; rfl)]
      have x0 : nI G * 9 = nI (G * 9) := nb_mul G 9
      have x1 : f_21 (nI G) (nI p) 1 * 9 = nI ((G ||| 2 ^ p) * 9) := by
        rw [show f_21 (nI G) (nI p) 1 = nI (G ||| 2 ^ p) from q21a (by omega)]
        exact nb_mul _ 9
      have pl : 2 ^ p < 2 ^ m := Nat.pow_lt_pow_right (by decide) hp
      have hl : (G ||| 2 ^ p) < 2 ^ m := Nat.or_lt_two_pow (by omega) pl
      have pp := Nat.two_pow_pos p
      obtain ⟨s0, s1⟩ := sb_sum G (by omega) p (by omega)
      have e1 : (G ||| 2 ^ p) = G + 2 ^ p := (s0 c).1
      have b1' : bi (G ||| 2 ^ p) p = 1 := (dv_or c).2
      obtain ⟨t0, t1⟩ := sb_sum (G ||| 2 ^ p) (by omega) p (by omega)
      have e2 := (t1 b1').1
      rw [x0, x1]
      unfold w_162
      have z := l162 (I := J) (F := F) (m := m) (p := p) (g := G) (h := G ||| 2 ^ p) (E := fun _ I5 => lw_161_74 (q + 1) (nI p) (nI (G + 1)) I5 E) hp hm (by omega) rfl c (by omega) hl (fun k hk => ⟨?_, ?_⟩) (fun J' v k1 k2 k3 => ?_) (p + 2) J (nI p + 1) ?_ (Nat.le_refl _) (fun c _ => rfl) (fun i _ => rfl) (fun k hk => ⟨fun l => ⟨?_, ?_⟩, fun l => ⟨?_, ?_⟩⟩)
      · exact ⟨p + 2 + 1, z⟩
      · rw [h2 G k (by omega) hk, (s0 c).2, if_neg (by omega)]
      · rw [h2 _ k hl hk, if_neg (by omega)]
      · refine ih J' (by omega) (fun c hc => (k1 c hc).trans (h1 c hc)) (fun g k hg hk => ?_)
        by_cases eg : g = G
        · subst eg
          rw [(k3 k hk).1, (s0 c).2, if_pos (by omega)]
        · by_cases eh : g = G ||| 2 ^ p
          · subst eh
            rw [(k3 k hk).2, if_pos (by omega)]
          · rw [k2 (g * 9 + k) (fun j hj => ⟨by omega, by omega⟩), h2 g k hg hk]
            have ne : sb g p 0 ≠ G := by
              intro e
              obtain ⟨u0, u1⟩ := sb_sum g (by omega) p (by omega)
              have bg := bi_lt g p
              rcases (by omega : bi g p = 0 ∨ bi g p = 1) with w | w
              · have := (u0 w).2
                omega
              · have := (u1 w).1
                omega
            by_cases l : sb g p 0 < G
            · rw [if_pos l, if_pos (by omega)]
            · rw [if_neg l, if_neg (by omega)]
      · rw [Int32.add_neg_eq_sub, show nI (p + 2) - 1 = nI (p + 2 - 1) from nb_sub (b := 1) (by omega)]
        exact nb_add p 1
      · rw [h2 G k (by omega) hk, (s0 c).2, if_neg (by omega)]
      · rw [h2 _ k hl hk, if_neg (by omega)]
      · rw [h2 G k (by omega) hk, (s0 c).2, if_neg (by omega), cA_hi (by omega), cA_hi (by omega)]
      · rw [h2 _ k hl hk, if_neg (by omega), cA_hi (by omega), cA_hi (by omega)]
    · rw [if_neg (nz0 (by omega) c)]
      refine ih J (by omega) h1 (fun g k hg hk => ?_)
      rw [h2 g k hg hk]
      have ne : sb g p 0 ≠ G := by
        intro e
        have q := bi_sb (w := g) (d := p) (b := 0) (i := p) (by omega) (by decide)
        rw [if_pos rfl, e] at q
        exact c q
      by_cases l : sb g p 0 < G
      · rw [if_pos l, if_pos (by omega)]
      · rw [if_neg l, if_neg (by omega)]
theorem l161d {I : am_I} {F : Nat → Bool} {m : Nat} {E : Int32 → am_I → Prop} (hm : m ≤ 8) (em : I 1 10 = nI m) (hE : ∀ J, (∀ c, c ≠ 61 → J c = I c) → (∀ g k, g < 2 ^ m → k ≤ 8 → J 61 (g * 9 + k) = nI (cA F m m g k)) → E (nI m) J) : ∀ q p J, p + q = m → (∀ c, c ≠ 61 → J c = I c) → (∀ g k, g < 2 ^ m → k ≤ 8 → J 61 (g * 9 + k) = nI (cA F m p g k)) → lw_161_64 (q + 1) (nI p) J E
  | 0, p, J, h, h1, h2 => by
    have hj : p = m := by omega
    subst hj
    unfold lw_161_64
    rw [h1 1 (by decide), em, if_pos (nI_le (Nat.le_refl _) (by omega))]
    exact hE J h1 h2
  | q + 1, p, J, h, h1, h2 => by
    unfold lw_161_64
    rw [h1 1 (by decide), em, if_neg (nI_ge (by omega) (by omega))]
    refine ⟨2 ^ m + 1, l161c (I := I) (F := F) (p := p) (by omega) hm em (fun J' k1 k2 => ?_) (2 ^ m) 0 J (by omega) h1 (fun g k hg hk => ?_)⟩
    · rw [← nI_succ]
      exact l161d hm em hE q (p + 1) J' (by omega) k1 k2
    · rw [h2 g k hg hk, if_neg (by omega)]
theorem q161 {I : am_I} {F : Nat → Bool} {m : Nat} {K : am_I → Prop} (hm : m ≤ 8) (em : I 1 10 = nI m) (e59 : I 59 1 = nI (fb_ct F (2 ^ m))) (e60 : ∀ s, s < 2 ^ m → F s = true → I 60 (fb_ct F s) = nI s) (hK : ∀ J, (∀ c, c ≠ 61 → J c = I c) → (∀ g k, g < 2 ^ m → k ≤ 8 → J 61 (g * 9 + k) = nI (cA (FO F m) m m g k)) → K J) : w_161 I K := by
  unfold w_161
  have p2 : 2 ^ m ≤ 256 := Nat.pow_le_pow_right (n := 2) (j := 8) (by decide) hm
  refine ⟨2305, l161a (I := I) (fun J1 a1 a2 => ?_) 2304 0 I (by omega) (fun c _ => rfl) (fun i hi => absurd hi (by omega))⟩
  refine ⟨fb_ct F (2 ^ m) + 1, l161b (I := I) (F := F) hm em e59 e60 (fun J2 b1' b2 => ?_) _ 0 J1 (by omega) a1 (fun x k hx hk => ?_)⟩
  · exact ⟨m + 1, l161d (I := I) (F := FO F m) (E := fun _ I9 => K I9) hm em hK m 0 J2 (by omega) b1' b2⟩
  · rw [a2 _ (by omega), if_neg (fun q => by have := q.2.2; omega)]
    rfl
theorem l160b {I : am_I} {f : Nat → Nat} {m g : Nat} {E : Int32 → Int32 → Prop} (hm : m ≤ 8) (hg : g < 256) (em : I 1 10 = nI m) (hf : ∀ k, k ≤ m → I 61 (g * 9 + k) = nI (f k) ∧ f k ≤ 256) (hE : E (nI (mxn f (m + 1))) (nI (m + 1))) : ∀ q j, j + q = m + 1 → lw_160_44 (q + 1) (nI g) (nI (mxn f j)) (nI j) I E
  | 0, j, h => by
    have hj : j = m + 1 := by omega
    subst hj
    unfold lw_160_44
    rw [em, if_pos (nI_lt (by omega) (by omega))]
    exact hE
  | q + 1, j, h => by
    have ih := l160b hm hg em hf hE q (j + 1) (by omega)
    obtain ⟨e, l⟩ := hf j (by omega)
    have ml : mxn f j ≤ 256 := mxn_le (fun k hk => (hf k (by omega)).2)
    unfold lw_160_44
    have x0 : nI g * 9 + nI j = nI (g * 9 + j) := by
      rw [show nI g * 9 = nI (g * 9) from nb_mul g 9, nb_add]
    rw [em, if_neg (nI_nlt (by omega) (by omega)), x0]
    refine ⟨nb_gd (by omega) (by decide), ?_⟩
    rw [nI_clamp (by omega : g * 9 + j < 2 ^ 31), e, ← nI_succ]
    have em2 : mxn f (j + 1) = max (mxn f j) (f j) := rfl
    rw [em2] at ih
    by_cases c : mxn f j < f j
    · rw [if_pos (nI_lt c (by omega))]
      rw [Nat.max_eq_right (by omega)] at ih
      exact ih
    · rw [if_neg (nI_nlt (by omega) (by omega))]
      rw [Nat.max_eq_left (by omega)] at ih
      exact ih
theorem l160a {I : am_I} {F : Nat → Bool} {m S : Nat} {E : Int32 → am_I → Prop} (hm : m ≤ 8) (em : I 1 10 = nI m) (hS : S ≤ 256) (e61 : ∀ g k, g < 2 ^ m → k ≤ 8 → I 61 (g * 9 + k) = nI (cA F m m g k)) (hcS : ∀ g k, cA F m m g k ≤ S) (hE : ∀ J v, (∀ c, c ≠ 59 → J c = I c) → (∀ i, i ≠ 2 → i ≠ 3 → J 59 i = I 59 i) → (BG (fun g => mxn (cA F m m g) (m + 1)) (2 ^ m - 1) (J 59 2) (J 59 3) ∨ 2 ^ m - 1 = 0) → E v J) : ∀ q n J, n + q = 2 ^ m - 1 → (∀ c, c ≠ 59 → J c = I c) → (∀ i, i ≠ 2 → i ≠ 3 → J 59 i = I 59 i) → (BG (fun g => mxn (cA F m m g) (m + 1)) n (J 59 2) (J 59 3) ∨ n = 0) → (n = 0 → J 59 3 = nI (S + 1)) → lw_160_22 (q + 1) (nI (n + 1)) J E
  | 0, n, J, h, h1, h2, h3, h4 => by
    have p2 : 2 ^ m ≤ 256 := Nat.pow_le_pow_right (n := 2) (j := 8) (by decide) hm
    have p1 := Nat.two_pow_pos m
    have hj : n = 2 ^ m - 1 := by omega
    subst hj
    unfold lw_160_22
    rw [q153 hm (by rw [h1 1 (by decide)]; exact em), if_pos (nI_lt (by omega) (by omega))]
    exact hE J _ h1 h2 h3
  | q + 1, n, J, h, h1, h2, h3, h4 => by
    have p2 : 2 ^ m ≤ 256 := Nat.pow_le_pow_right (n := 2) (j := 8) (by decide) hm
    have p1 := Nat.two_pow_pos m
    have ih := l160a hm em hS e61 hcS hE q (n + 1)
    have ml : ∀ g, mxn (cA F m m g) (m + 1) ≤ S := fun g => mxn_le (fun k _ => hcS g k)
    have ml2 : ∀ g, (fun g => mxn (cA F m m g) (m + 1)) g < 2 ^ 30 := fun g => by
      have := ml g
      show mxn (cA F m m g) (m + 1) < 2 ^ 30
      omega
    unfold lw_160_22
    rw [q153 hm (by rw [h1 1 (by decide)]; exact em), if_neg (nI_nlt (by omega) (by omega)), if_neg (show ¬ Int32.ofNat 256 ≤ nI (n + 1) from nI_ge (b := 256) (by omega) (by decide))]
    refine ⟨m + 2, l160b (I := J) (f := cA F m m (n + 1)) hm (by omega) (by rw [h1 1 (by decide)]; exact em) (fun k hk => ⟨by rw [h1 61 (by decide)]; exact e61 (n + 1) k (by omega) (by omega), by have := hcS (n + 1) k; omega⟩) ?_ (m + 1) 0 (by omega)⟩
    have ms := ml (n + 1)
    rw [← nI_succ]
    by_cases c : J 59 3 ≤ nI (mxn (cA F m m (n + 1)) (m + 1))
    · refine am_ifp c (ih J (by omega) h1 h2 ?_ (fun z => absurd z (by omega)))
      rcases h3 with h3 | h3
      · exact Or.inl (BG_keep ml2 h3 c)
      · rw [h4 h3] at c
        exact absurd c (nI_ge (by omega) (by omega))
    · refine am_ifn c (ih _ (by omega) (fun c hc => by rw [uu_h hc, uu_h hc]; exact h1 c hc) (fun i i2 i3 => by rw [uu_n i2, uu_n i3]; exact h2 i i2 i3) ?_ (fun z => absurd z (by omega)))
      rw [uu_e, uu_n (by decide), uu_e]
      exact Or.inl (BG_new ml2 h3 c)
theorem q160 {I : am_I} {F : Nat → Bool} {m : Nat} {K : am_I → Prop} (hm : m ≤ 8) (m1 : 1 ≤ m) (em : I 1 10 = nI m) (e59 : I 59 1 = nI (fb_ct F (2 ^ m))) (e60 : ∀ s, s < 2 ^ m → F s = true → I 60 (fb_ct F s) = nI s) (hK : ∀ J, (∀ c, c ≠ 59 → c ≠ 61 → J c = I c) → BG (fun g => mxn (cA (FO F m) m m g) (m + 1)) (2 ^ m - 1) (J 59 2) (J 59 3) → K J) : w_160 I K := by
  unfold w_160
  have p2 : 2 ^ m ≤ 256 := Nat.pow_le_pow_right (n := 2) (j := 8) (by decide) hm
  have p1 : 2 ^ 1 ≤ 2 ^ m := Nat.pow_le_pow_right (by decide) m1
  have cl := fb_ct_le F (2 ^ m)
  refine q161 hm em e59 e60 (fun J k1 k2 => ?_)
  refine ⟨2 ^ m - 1 + 1, ?_⟩
  refine l160a (I := am_u (am_u J 59 2 (-1)) 59 3 (J 59 1 + 1)) (F := FO F m) (S := fb_ct F (2 ^ m)) hm ?_ (by omega) ?_ (fun g k => ?_) (fun G v g1 g2 g3 => ?_) (2 ^ m - 1) 0 _ (by omega) (fun c _ => rfl) (fun i _ _ => rfl) (Or.inr rfl) (fun _ => ?_)
  · rw [uu_c (by decide), uu_c (by decide), k1 1 (by decide)]
    exact em
  · intro g k hg hk
    rw [uu_c (by decide), uu_c (by decide)]
    exact k2 g k hg hk
  · have e : fb_ct F (2 ^ m) = fb_ct (FO F m) (2 ^ m) := by
      rw [← fb_ct_rev F]
      rfl
    rw [e]
    unfold cA
    refine fb_ct_sub (fun x _ hx => ?_)
    unfold AP at hx
    rw [Bool.and_eq_true] at hx
    exact hx.1
  · refine hK G (fun c c1 c2 => ?_) ?_
    · rw [g1 c c1, uu_h c1, uu_h c1]
      exact k1 c c2
    · rcases g3 with g3 | g3
      · exact g3
      · omega
  · rw [uu_e, k1 59 (by decide), e59, ← nI_succ]
