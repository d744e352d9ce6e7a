/-! out: the sets, one after the other -/
def GI (I J : am_I) (F : Nat → Bool) (s : Nat) : Prop := (∀ c, c ≠ 59 → c ≠ 60 → J c = I c) ∧ (∀ i, i ≠ 1 → J 59 i = I 59 i) ∧ J 59 1 = nI (fb_ct F s) ∧ ∀ s', s' < s → F s' = true → J 60 (fb_ct F s') = nI s'
theorem l157 {I : am_I} {c m : Nat} {E : Int32 → am_I → Prop} (hc : c ≤ 8) (hm : m ≤ 8) (em : I 1 10 = nI m) (e1 : I 1 13 = nI c) (hp : ∀ k, k < c → ∃ g i, g < 2 ^ m ∧ i ≤ 8 ∧ I 9 k = nI g ∧ I 10 k = nI i ∧ I 68 (94 + 2 * k) = nI g ∧ I 68 (95 + 2 * k) = nI i) (hE : ∀ J, GI I J (fit (I 68) c) (2 ^ m) → E (nI (2 ^ m)) J) : ∀ k s J, s + k = 2 ^ m → GI I J (fit (I 68) c) s → lw_157_7 (k + 1) (nI s) J E
  | 0, s, J, h, hg => by
    have hs : s = 2 ^ m := by omega
    subst hs
    have p2 : 2 ^ m ≤ 256 := Nat.pow_le_pow_right (n := 2) (j := 8) (by decide) hm
    have p1 : 1 ≤ 2 ^ m := Nat.one_le_two_pow
    unfold lw_157_7
    rw [q153 hm (by rw [hg.1 1 (by decide) (by decide)]; exact em), if_pos (nI_lt (by omega) (by omega))]
    exact hE J hg
  | k + 1, s, J, h, hg => by
    have p2 : 2 ^ m ≤ 256 := Nat.pow_le_pow_right (n := 2) (j := 8) (by decide) hm
    have J1 : J 1 = I 1 := hg.1 1 (by decide) (by decide)
    have J9 : J 9 = I 9 := hg.1 9 (by decide) (by decide)
    have J10 : J 10 = I 10 := hg.1 10 (by decide) (by decide)
    have J68 : J 68 = I 68 := hg.1 68 (by decide) (by decide)
    unfold lw_157_7
    rw [q153 hm (by rw [J1]; exact em), if_neg (nI_nlt (by omega) (by omega))]
    rw [if_neg (show ¬ Int32.ofNat 256 ≤ nI s from nI_ge (b := 256) (by omega) (by decide))]
    refine q158 (c := c) (m := m) hc hm (by rw [J1]; exact e1) (by rw [J9, J10, J68]; exact hp) ?_
    rw [J68, ← nI_succ]
    have cs := fb_ct_succ (fit (I 68) c) s
    have cl := fb_ct_le (fit (I 68) c) s
    cases hb : fit (I 68) c s with
    | false =>
      refine am_ifp rfl (l157 hc hm em e1 hp hE k (s + 1) J (by omega) ⟨hg.1, hg.2.1, ?_, fun s' hs' hf => ?_⟩)
      · rw [cs, hb]
        exact hg.2.2.1
      · by_cases es : s' = s
        · subst es
          rw [hb] at hf
          cases hf
        · exact hg.2.2.2 s' (by omega) hf
    | true =>
      have x0 : J 59 1 = nI (fb_ct (fit (I 68) c) s) := hg.2.2.1
      refine am_ifn (by decide) ⟨nb_gdx x0 (by omega) (by decide), ?_⟩
      rw [nb_cl x0 (by omega), x0, ← nI_succ]
      refine l157 hc hm em e1 hp hE k (s + 1) _ (by omega) ⟨fun c h1 h2 => ?_, fun i hi => ?_, ?_, fun s' hs' hf => ?_⟩
      · rw [uu_h h1, uu_h h2]
        exact hg.1 c h1 h2
      · rw [uu_n hi, uu_c (by decide)]
        exact hg.2.1 i hi
      · rw [uu_e, cs, hb]
        rfl
      · rw [uu_c (by decide)]
        by_cases es : s' = s
        · subst es
          exact uu_e
        · have mono := fb_ct_mono (fit (I 68) c) (show s' + 1 ≤ s by omega)
          have cs' := fb_ct_succ (fit (I 68) c) s'
          rw [hf] at cs'
          simp only [if_true] at cs'
          rw [uu_n (by omega)]
          exact hg.2.2.2 s' (by omega) hf
theorem q157 {I : am_I} {c m : Nat} {K : am_I → Prop} (hc : c ≤ 8) (hm : m ≤ 8) (em : I 1 10 = nI m) (e1 : I 1 13 = nI c) (hp : ∀ k, k < c → ∃ g i, g < 2 ^ m ∧ i ≤ 8 ∧ I 9 k = nI g ∧ I 10 k = nI i ∧ I 68 (94 + 2 * k) = nI g ∧ I 68 (95 + 2 * k) = nI i) (hK : ∀ J, GI I J (fit (I 68) c) (2 ^ m) → K J) : w_157 I K := by
  unfold w_157
  refine ⟨2 ^ m + 1, l157 (E := fun _ J => K J) hc hm em e1 hp hK (2 ^ m) 0 _ (by omega) ⟨fun c h1 h2 => uu_h h1, fun i hi => uu_n hi, uu_e, fun s' h => absurd h (by omega)⟩⟩
def rso (F : Nat → Bool) (x : Int32) : Nat → Int32
  | 0 => -1
  | s + 1 => if F s = true then (if nI (fb_ct F s) = x then nI s else rso F x s) else rso F x s
theorem rso_no {F : Nat → Bool} {x : Int32} : ∀ {s : Nat}, (∀ s', s' < s → F s' = true → ¬ nI (fb_ct F s') = x) → rso F x s = -1
  | 0, _ => rfl
  | s + 1, h => by
    show (if F s = true then (if nI (fb_ct F s) = x then nI s else rso F x s) else rso F x s) = -1
    have ih := rso_no (F := F) (x := x) (s := s) (fun s' hs' => h s' (by omega))
    by_cases c : F s = true
    · rw [if_pos c, if_neg (h s (by omega) c)]
      exact ih
    · rw [if_neg c]
      exact ih
theorem rso_yes {F : Nat → Bool} {s0 : Nat} (h0 : F s0 = true) : ∀ {s : Nat}, s ≤ 256 → s0 < s → rso F (nI (fb_ct F s0)) s = nI s0
  | 0, _, h => absurd h (by omega)
  | s + 1, h2, h => by
    show (if F s = true then (if nI (fb_ct F s) = nI (fb_ct F s0) then nI s else rso F (nI (fb_ct F s0)) s) else rso F (nI (fb_ct F s0)) s) = nI s0
    by_cases e : s0 = s
    · subst e
      rw [if_pos h0, if_pos rfl]
    · have ih := rso_yes h0 (s := s) (by omega) (by omega)
      by_cases c : F s = true
      · have l1 := fb_ct_le F s
        have l2 := fb_ct_le F s0
        rw [if_pos c, if_neg (fun q => e (fb_ct_kth_one h0 c ((nb_inj (by omega) (by omega)).mp q).symm))]
        exact ih
      · rw [if_neg c]
        exact ih
theorem l283 {I : am_I} {c m : Nat} {x : Int32} {E : Int32 → Int32 → Int32 → Prop} (hc : c ≤ 8) (hm : m ≤ 8) (em : I 68 1 = nI m) (e1 : I 68 2 = nI c) (hp : ∀ k, k < c → ∃ g i, g < 2 ^ m ∧ i ≤ 8 ∧ I 68 (94 + 2 * k) = nI g ∧ I 68 (95 + 2 * k) = nI i) (hE : E (nI (fb_ct (fit (I 68) c) (2 ^ m))) (rso (fit (I 68) c) x (2 ^ m)) (nI (2 ^ m))) : ∀ k s, s + k = 2 ^ m → lw_283_12 (k + 1) x (nI (fb_ct (fit (I 68) c) s)) (rso (fit (I 68) c) x s) (nI s) I E
  | 0, s, h => by
    have hs : s = 2 ^ m := by omega
    subst hs
    have p2 : 2 ^ m ≤ 256 := Nat.pow_le_pow_right (n := 2) (j := 8) (by decide) hm
    unfold lw_283_12
    rw [em, q1s m (by omega), if_pos (nI_le (Nat.le_refl _) (by omega))]
    exact hE
  | k + 1, s, h => by
    have p2 : 2 ^ m ≤ 256 := Nat.pow_le_pow_right (n := 2) (j := 8) (by decide) hm
    have ih := l283 hc hm em e1 hp hE k (s + 1) (by omega)
    unfold lw_283_12
    rw [em, q1s m (by omega), if_neg (nI_ge (by omega) (by omega))]
    refine q284 hc hm (by omega) e1 hp ?_
    rw [← nI_succ]
    have er : rso (fit (I 68) c) x (s + 1) = (if fit (I 68) c s = true then (if nI (fb_ct (fit (I 68) c) s) = x then nI s else rso (fit (I 68) c) x s) else rso (fit (I 68) c) x s) := rfl
    rw [fb_ct_succ, er] at ih
    cases hb : fit (I 68) c s with
    | false =>
      rw [hb] at ih
      simp only [Bool.false_eq_true, if_false, Nat.add_zero] at ih
      exact am_ifp rfl ih
    | true =>
      rw [hb] at ih
      simp only [if_true] at ih
      refine am_ifn (by decide) ?_
      rw [← nI_succ]
      by_cases z : nI (fb_ct (fit (I 68) c) s) = x
      · rw [if_pos z] at ih
        exact am_ifp z ih
      · rw [if_neg z] at ih
        exact am_ifn z ih
theorem qlz (x : Int32) (n : Nat) (hn : n < 2 ^ 31) : (f_13 x 0 (nI n - 1) = 0 ∧ ∀ k, k < n → ¬ x = nI k) ∨ (f_13 x 0 (nI n - 1) = 1 ∧ ∃ k, k < n ∧ x = nI k) := by
  by_cases n0 : n = 0
  · refine Or.inl ⟨?_, fun k hk => absurd hk (by omega)⟩
    unfold f_13
    by_cases c : x < 0
    · rw [if_pos c]
    · rw [if_neg c, if_pos]
      obtain ⟨k, hk, rfl⟩ := nb_of c
      rw [n0, Int32.lt_iff_toInt_lt, nI_toInt hk]
      show (-1 : Int) < k
      omega
  · have e : nI n - 1 = nI (n - 1) := nb_sub (a := n) (b := 1) (by omega)
    rw [e]
    rcases q13 x 0 (n - 1) (by decide) (by omega) with ⟨a, g⟩ | ⟨a, k, _, hk, e2⟩
    · exact Or.inl ⟨a, fun k hk => g k (by omega) (by omega)⟩
    · exact Or.inr ⟨a, k, by omega, e2⟩
theorem o_32 {D : am_P} (hD : FrD D) {N : Nat} {T : Nat → Nat × Nat} {r : Nat → Nat → Option Nat} {I : am_I} {L : am_J} (h : Inv D N T r I L) (x1 : Int32) : op_32 x1 (Inv D) N T r I L := by
  unfold op_32 w_156
  obtain ⟨c, m, hc, hm, e1, e2, e3, hp⟩ := h.1.2.2.1
  obtain ⟨m', v, hm', hv, a1, a2, a3, hpm⟩ := h.1.2.1
  have em : m' = m := by
    rw [e3] at a2
    exact ((nb_inj (by omega) (by omega)).mp a2).symm
  subst em
  have p2 : 2 ^ m' ≤ 256 := Nat.pow_le_pow_right (n := 2) (j := 8) (by decide) hm
  refine q157 hc hm a1 e1 hp (fun J hg => ?_)
  have hJ : Inv D N T r (am_u J 66 0 0) L := inv_0 hD (inv_scr hD h (fun c hc => hg.1 c (by omega) (by omega)))
  have J68 : J 68 = I 68 := hg.1 68 (by decide) (by decide)
  have cl := fb_ct_le (fit (I 68) c) (2 ^ m')
  have mdl : ∀ q : Int32, (x1 = -1 → q = nI (fb_ct (fit (I 68) c) (2 ^ m'))) → (¬ x1 = -1 → q = rso (fit (I 68) c) x1 (2 ^ m')) → w_283 x1 J (fun q2 I2 => q = q2 ∧ Inv D N T r I2 L) := by
    intro q h1 h2
    unfold w_283
    have z := l283 (I := am_u J 66 0 0) (c := c) (m := m') (x := x1) (E := fun o2 o3 o4 => if x1 = (-1) then (q = o2 ∧ Inv D N T r (am_u J 66 0 0) L) else (q = o3 ∧ Inv D N T r (am_u J 66 0 0) L)) hc hm (by rw [uu_c (by decide), J68]; exact e3) (by rw [uu_c (by decide), J68]; exact e2) (fun k hk => by
      rw [uu_c (by decide), uu_c (by decide), J68]
      obtain ⟨g, i, g1, g2, _, _, g5, g6⟩ := hp k hk
      exact ⟨g, i, g1, g2, g5, g6⟩) ?_ (2 ^ m') 0 (by omega)
    · exact ⟨2 ^ m' + 1, z⟩
    · have e68 : am_u J 66 0 0 68 = I 68 := by rw [uu_h (by decide), J68]
      rw [e68]
      by_cases c : x1 = -1
      · rw [if_pos c]
        exact ⟨h1 c, hJ⟩
      · rw [if_neg c]
        exact ⟨h2 c, hJ⟩
  by_cases c1 : x1 = -1
  · refine am_ifp c1 ?_
    exact mdl _ (fun _ => hg.2.2.1) (fun q => absurd c1 q)
  · refine am_ifn c1 ?_
    rw [hg.2.2.1]
    rcases qlz x1 (fb_ct (fit (I 68) c) (2 ^ m')) (by omega) with ⟨b1', b2⟩ | ⟨b1', k, hk, rfl⟩
    · rw [if_pos b1']
      refine mdl _ (fun q => absurd q c1) (fun _ => (rso_no (fun s' hs' hf q => b2 (fb_ct (fit (I 68) c) s') ?_ q.symm)).symm)
      have cs' := fb_ct_succ (fit (I 68) c) s'
      rw [hf] at cs'
      simp only [if_true] at cs'
      have mono := fb_ct_mono (fit (I 68) c) (show s' + 1 ≤ 2 ^ m' by omega)
      omega
    · rw [if_neg (by rw [b1']; decide)]
      refine ⟨nb_gd (by omega) (by decide), ?_⟩
      rw [nI_clamp (by omega)]
      obtain ⟨s0, h1, h2, h3⟩ := fb_ct_kth hk
      refine mdl _ (fun q => absurd q c1) (fun _ => ?_)
      rw [← h3, hg.2.2.2 s0 h1 h2]
      exact (rso_yes h2 p2 h1).symm
