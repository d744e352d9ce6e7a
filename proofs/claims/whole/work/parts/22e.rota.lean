/-! rota: prices -/
theorem cl9_r (z : Int32) : ∃ c, c ≤ 999 ∧ cl9 z = nI c := by
  unfold cl9
  have hy : (if z < (999 : Int32) then z else (999 : Int32)).toInt ≤ 999 := by
    by_cases h : z < (999 : Int32)
    · rw [if_pos h]
      have := Int32.lt_iff_toInt_lt.mp h
      have e : (999 : Int32).toInt = 999 := rfl
      omega
    · rw [if_neg h]; decide
  generalize (if z < (999 : Int32) then z else (999 : Int32)) = y at hy ⊢
  by_cases h : (0 : Int32) < y
  · rw [if_pos h]
    have h1 := Int32.lt_iff_toInt_lt.mp h
    have e : (0 : Int32).toInt = 0 := rfl
    refine ⟨y.toInt.toNat, by omega, ?_⟩
    rw [show nI y.toInt.toNat = Int32.ofInt ((y.toInt.toNat : Nat) : Int) from rfl, Int.toNat_of_nonneg (by omega)]
    exact (Int32.ofInt_toInt y).symm
  · rw [if_neg h]
    exact ⟨0, by decide, rfl⟩
theorem sC_r {w : Nat} (hw : w ≤ 9) (o : Option Int) : ∃ c, c ≤ 999 ∧ sC (nI w + 1) o = nI c := by
  cases o with
  | none => exact ⟨w + 1, by omega, (nI_succ w).symm⟩
  | some v => exact cl9_r _
/-- one's numbers, out of the class's cells -/
def mkR (I : am_I) : Nat → Int32 := fun i => if i = 5 then I 12 0 else if i = 7 then I 12 2 else if i = 8 then I 12 3 else if i < 26 then I 7 (i - 18) else if i < 34 then I 4 (i - 26) else I 5 (i - 34)
theorem wdp_mk {I : am_I} {m p : Nat} (h : PWd I m p) (a b c : Int) : wdp (I 68) p a b c = wdp (mkR I) p a b c := by
  obtain ⟨hm, hp, c1, c2, e20, y, w, ky, a', o, d, y1, y2, w1, ky1, a1, o1, d1, f4, f5, f7, f0, f2, f3, r26, r34, r18, r5, r7, r8⟩ := h
  have k26 : mkR I (26 + p) = I 68 (26 + p) := by
    unfold mkR
    rw [if_neg (by omega), if_neg (by omega), if_neg (by omega), if_neg (by omega), if_pos (by omega), show 26 + p - 26 = p by omega, f4, r26]
  have k34 : mkR I (34 + p) = I 68 (34 + p) := by
    unfold mkR
    rw [if_neg (by omega), if_neg (by omega), if_neg (by omega), if_neg (by omega), if_neg (by omega), show 34 + p - 34 = p by omega, f5, r34]
  have k18 : mkR I (18 + p) = I 68 (18 + p) := by
    unfold mkR
    rw [if_neg (by omega), if_neg (by omega), if_neg (by omega), if_pos (by omega), show 18 + p - 18 = p by omega, f7, r18]
  have k5 : mkR I 5 = I 68 5 := by
    show I 12 0 = _
    rw [f0, r5]
  have k7 : mkR I 7 = I 68 7 := by
    show I 12 2 = _
    rw [f2, r7]
  have k8 : mkR I 8 = I 68 8 := by
    show I 12 3 = _
    rw [f3, r8]
  funext x
  unfold wdp
  rw [k26, k34, k18, k5, k7, k8]
theorem mkR_cg {I J : am_I} (h4 : J 4 = I 4) (h5 : J 5 = I 5) (h7 : J 7 = I 7) (h12 : J 12 = I 12) : mkR J = mkR I := by
  unfold mkR
  rw [h4, h5, h7, h12]
def prc (I : am_I) (fx : Option LWX) : PRI := fun p w b => if isb (TL fx 3 (wdp (mkR I) p w b (-1))) = true then none else some (min 1000 (Int32.toNatClampNeg (sC (I 5 p + 1) (TL fx 0 (wdp (mkR I) p w b (-1))))))
theorem prc_le {I : am_I} {fx : Option LWX} : ∀ p w b c, prc I fx p w b = some c → c ≤ 1000 := by
  intro p w b c h
  unfold prc at h
  split at h
  · exact absurd h (by simp)
  · have h := (Option.some.inj h).symm
    omega
theorem prc_cg {I J : am_I} (fx : Option LWX) (h4 : J 4 = I 4) (h5 : J 5 = I 5) (h7 : J 7 = I 7) (h12 : J 12 = I 12) : prc J fx = prc I fx := by
  unfold prc
  rw [mkR_cg h4 h5 h7 h12, h5]
theorem prc_1 {I : am_I} {fx : Option LWX} {m p w b : Nat} (h : PWd I m p) (k : isb (TL fx 3 (wdp (I 68) p w b (-1))) = true) : pI (prc I fx p w b) = -1 := by
  unfold prc
  rw [← wdp_mk h, if_pos k]
  rfl
theorem prc_0 {I : am_I} {fx : Option LWX} {m p w b : Nat} (h : PWd I m p) (k : isb (TL fx 3 (wdp (I 68) p w b (-1))) = false) : pI (prc I fx p w b) = sC (I 5 p + 1) (TL fx 0 (wdp (I 68) p w b (-1))) := by
  unfold prc
  rw [← wdp_mk h, if_neg (by rw [k]; decide)]
  obtain ⟨hm, hp, c1, c2, e20, y, w', ky, a', o, d, y1, y2, w1, ky1, a1, o1, d1, f4, f5, _⟩ := h
  rw [f5]
  obtain ⟨c, hc, e⟩ := sC_r w1 (TL fx 0 (wdp (I 68) p w b (-1)))
  rw [e, nI_clamp (by omega)]
  show nI (min 1000 c) = nI c
  rw [Nat.min_eq_right (by omega)]
def frP (q : Nat) (I J : am_I) : Prop := ∀ c, c ≠ 24 → c ≠ 25 → c ≠ 26 → c ≠ q + 8 → J c = I c
def PTs (J : am_I) (q : Nat) (P : PRI) (m s : Nat) : Prop := ∀ p w b, p < m → w < 6 → b < 2 → (p * 6 + w) * 2 + b < s → J (q + 8) ((w * 2 + b) * 8 + p) = pI (P p w b)
theorem PTs_u {J : am_I} {q : Nat} {P : PRI} {m p w b : Nat} {v : Int32} (h : PTs J q P m ((p * 6 + w) * 2 + b)) (hp : p < m) (hm : m ≤ 8) (hw : w < 6) (hb : b < 2) (e : v = pI (P p w b)) : PTs (am_u J (q + 8) ((w * 2 + b) * 8 + p) v) q P m ((p * 6 + w) * 2 + (b + 1)) := by
  intro p' w' b' k1 k2 k3 k4
  by_cases z : (w' * 2 + b') * 8 + p' = (w * 2 + b) * 8 + p
  · have z1 : p' = p := by omega
    have z2 : w' = w := by omega
    have z3 : b' = b := by omega
    subst z1 z2 z3
    rw [uu_e, e]
  · rw [uu_n z]
    refine h p' w' b' k1 k2 k3 ?_
    rcases Nat.lt_or_ge ((p' * 6 + w') * 2 + b') ((p * 6 + w) * 2 + b) with y | y
    · exact y
    · exfalso
      have y1 : (p' * 6 + w') * 2 + b' = (p * 6 + w) * 2 + b := by omega
      have y2 : b' = b := by omega
      have y3 : p' * 6 + w' = p * 6 + w := by omega
      have y4 : p' = p := by omega
      have y5 : w' = w := by omega
      subst y2 y4 y5
      exact z rfl
theorem PWd_P {q : Nat} {I G : am_I} {m p : Nat} (h : PWd I m p) (q99 : 99 ≤ q) (hG : frP q I G) : PWd G m p := PWd_cg h (hG 1 (by decide) (by decide) (by decide) (by omega)) (hG 4 (by decide) (by decide) (by decide) (by omega)) (hG 5 (by decide) (by decide) (by decide) (by omega)) (hG 7 (by decide) (by decide) (by decide) (by omega)) (hG 12 (by decide) (by decide) (by decide) (by omega)) (hG 68 (by decide) (by decide) (by decide) (by omega)) (by rw [hG 66 (by decide) (by decide) (by decide) (by omega)])
theorem l139cn {T : Nat → Nat × Nat} {r : Nat → Nat → Option Nat} {q m : Nat} {I : am_I} {p w : Nat} {E : Int32 → am_I → Prop} (q99 : 99 ≤ q) (ob : OB T r q) (hm : m ≤ 8) (h : PWd I m p) (hp : p < m) (hw : w < 6) (hE : ∀ u J, frP q I J → PTs J q (prc I none) m ((p * 6 + (w + 1)) * 2) → E u J) : ∀ k b J, b + k = 2 → frP q I J → PTs J q (prc I none) m ((p * 6 + w) * 2 + b) → lw_139_34 (k + 1) q (nI p) (nI w) (nI b) T r J E
  | 0, b, J, hb, f, g => by
    have e : b = 2 := by omega
    subst e
    unfold lw_139_34
    rw [if_pos (by decide)]
    rw [show (p * 6 + w) * 2 + 2 = (p * 6 + (w + 1)) * 2 by omega] at g
    exact hE _ J f g
  | k + 1, b, J, hb, f, g => by
    have ih := fun G => l139cn q99 ob hm h hp hw hE k (b + 1) G (by omega)
    rw [nI_succ] at ih
    obtain ⟨k9, -, -, -, -, -, -, -, o9, -, -, -, -, -, -, -, t8⟩ := ob
    unfold lw_139_34
    rw [if_neg (show ¬ (2 : Int32) ≤ nI b from nI_ge (b := 2) (by omega) (by decide))]
    have es : (nI w * 2 + nI b) * 8 + nI p = nI ((w * 2 + b) * 8 + p) := by rw [show (2 : Int32) = nI 2 from rfl, show (8 : Int32) = nI 8 from rfl, nb_mul, nb_add, nb_mul, nb_add]
    have gs : ¬ ((nI w * 2 + nI b) * 8 + nI p < 0 ∨ (am_ts T (q + 8)).2 ≤ Int32.toNatClampNeg ((nI w * 2 + nI b) * 8 + nI p)) := by
      rw [t8]
      exact nb_gdx es (by omega) (by decide)
    have cs := nb_cl es (by omega)
    refine c113n (PWd_P h q99 f) (smI_n (by omega : w ≤ 100)) (smI_n (by omega : b ≤ 100)) (fun G hG' => ?_)
    have hG : frP q I G := fun c c1 c2 c3 c4 => (hG' c c1 c2 c3).trans (f c c1 c2 c3 c4)
    have gG : PTs G q (prc I none) m ((p * 6 + w) * 2 + b) := fun p' w' b' a1 a2 a3 a4 => by rw [hG' (q + 8) (by omega) (by omega) (by omega)]; exact g p' w' b' a1 a2 a3 a4
    rw [f 68 (by decide) (by decide) (by decide) (by omega)]
    cases hi : isb (TL none 3 (wdp (I 68) p w b (-1))) with
    | true =>
      refine am_ifn (show ¬ b1 true = 0 by decide) ⟨k9, _, o9, by rw [t8], gs, ?_⟩
      rw [cs]
      refine ih _ (fun c c1 c2 c3 c4 => ?_) (PTs_u gG hp hm hw (by omega) (prc_1 h hi).symm)
      rw [uu_h c4]; exact hG c c1 c2 c3 c4
    | false =>
      refine am_ifp (show b1 false = 0 from rfl) ?_
      refine c109n (PWd_P h q99 hG) (smI_n (by omega : w ≤ 100)) (smI_n (by omega : b ≤ 100)) (fun F hF' => ?_)
      have hF : frP q I F := fun c c1 c2 c3 c4 => (hF' c c1 c2 c3).trans (hG c c1 c2 c3 c4)
      have gF : PTs F q (prc I none) m ((p * 6 + w) * 2 + b) := fun p' w' b' a1 a2 a3 a4 => by rw [hF' (q + 8) (by omega) (by omega) (by omega)]; exact gG p' w' b' a1 a2 a3 a4
      rw [hG 68 (by decide) (by decide) (by decide) (by omega), hG 5 (by decide) (by decide) (by decide) (by omega)]
      refine ⟨k9, _, o9, by rw [t8], gs, ?_⟩
      rw [cs]
      refine ih _ (fun c c1 c2 c3 c4 => ?_) (PTs_u gF hp hm hw (by omega) (prc_0 h hi).symm)
      rw [uu_h c4]; exact hF c c1 c2 c3 c4
theorem l139bn {T : Nat → Nat × Nat} {r : Nat → Nat → Option Nat} {q m : Nat} {I : am_I} {p : Nat} {E : Int32 → am_I → Prop} (q99 : 99 ≤ q) (ob : OB T r q) (hm : m ≤ 8) (h : PWd I m p) (hp : p < m) (hE : ∀ u J, frP q I J → PTs J q (prc I none) m ((p + 1) * 12) → E u J) : ∀ k w J, w + k = 6 → frP q I J → PTs J q (prc I none) m ((p * 6 + w) * 2) → lw_139_24 (k + 1) q (nI p) (nI w) T r J E
  | 0, w, J, hb, f, g => by
    have e : w = 6 := by omega
    subst e
    unfold lw_139_24
    rw [if_pos (by decide)]
    rw [show (p * 6 + 6) * 2 = (p + 1) * 12 by omega] at g
    exact hE _ J f g
  | k + 1, w, J, hb, f, g => by
    have ih := fun G => l139bn q99 ob hm h hp hE k (w + 1) G (by omega)
    rw [nI_succ] at ih
    unfold lw_139_24
    rw [if_neg (show ¬ (6 : Int32) ≤ nI w from nI_ge (b := 6) (by omega) (by decide))]
    exact ⟨3, l139cn q99 ob hm h hp (by omega) (fun _ G hG gG => ih G hG gG) 2 0 J (by omega) f g⟩
theorem l139an {T : Nat → Nat × Nat} {r : Nat → Nat → Option Nat} {q m : Nat} {I : am_I} {E : Int32 → am_I → Prop} (q99 : 99 ≤ q) (ob : OB T r q) (hm : m ≤ 8) (em : I 1 10 = nI m) (h : ∀ p, p < m → PWd I m p) (hE : ∀ u J, frP q I J → PTs J q (prc I none) m (m * 12) → E u J) : ∀ k p J, p + k = m → frP q I J → PTs J q (prc I none) m (p * 12) → lw_139_12 (k + 1) q (nI p) T r J E
  | 0, p, J, hb, f, g => by
    have e : p = m := by omega
    subst e
    unfold lw_139_12
    rw [f 1 (by decide) (by decide) (by decide) (by omega), em, if_pos (nI_le (Nat.le_refl _) (by omega))]
    exact hE _ J f g
  | k + 1, p, J, hb, f, g => by
    have ih := fun G => l139an q99 ob hm em h hE k (p + 1) G (by omega)
    rw [nI_succ] at ih
    unfold lw_139_12
    rw [f 1 (by decide) (by decide) (by decide) (by omega), em, if_neg (nI_ge (by omega) (by omega))]
    rw [show p * 12 = (p * 6 + 0) * 2 by omega] at g
    exact ⟨7, l139bn q99 ob hm (h p (by omega)) (by omega) (fun _ G hG gG => ih G hG gG) 6 0 J (by omega) f g⟩
theorem l139cs {T : Nat → Nat × Nat} {r : Nat → Nat → Option Nat} {q m : Nat} {I : am_I} {X : LWX} {t : Nat} (hX : okX X) (hL : ∀ G, frP q I G → LAWc T r G t X) {p w : Nat} {E : Int32 → am_I → Prop} (q99 : 99 ≤ q) (ob : OB T r q) (hm : m ≤ 8) (h : PWd I m p) (hp : p < m) (hw : w < 6) (hE : ∀ u J, frP q I J → PTs J q (prc I (some X)) m ((p * 6 + (w + 1)) * 2) → E u J) : ∀ k b J, b + k = 2 → frP q I J → PTs J q (prc I (some X)) m ((p * 6 + w) * 2 + b) → lw_139_34a (k + 1) q t (nI p) (nI w) (nI b) T r J E
  | 0, b, J, hb, f, g => by
    have e : b = 2 := by omega
    subst e
    unfold lw_139_34a
    rw [if_pos (by decide)]
    rw [show (p * 6 + w) * 2 + 2 = (p * 6 + (w + 1)) * 2 by omega] at g
    exact hE _ J f g
  | k + 1, b, J, hb, f, g => by
    have ih := fun G => l139cs hX hL q99 ob hm h hp hw hE k (b + 1) G (by omega)
    rw [nI_succ] at ih
    obtain ⟨k9, -, -, -, -, -, -, -, o9, -, -, -, -, -, -, -, t8⟩ := ob
    unfold lw_139_34a
    rw [if_neg (show ¬ (2 : Int32) ≤ nI b from nI_ge (b := 2) (by omega) (by decide))]
    have es : (nI w * 2 + nI b) * 8 + nI p = nI ((w * 2 + b) * 8 + p) := by rw [show (2 : Int32) = nI 2 from rfl, show (8 : Int32) = nI 8 from rfl, nb_mul, nb_add, nb_mul, nb_add]
    have gs : ¬ ((nI w * 2 + nI b) * 8 + nI p < 0 ∨ (am_ts T (q + 8)).2 ≤ Int32.toNatClampNeg ((nI w * 2 + nI b) * 8 + nI p)) := by
      rw [t8]
      exact nb_gdx es (by omega) (by decide)
    have cs := nb_cl es (by omega)
    refine c113s (PWd_P h q99 f) hX (hL _ f) (smI_n (by omega : w ≤ 100)) (smI_n (by omega : b ≤ 100)) (fun G hG' => ?_)
    have hG : frP q I G := fun c c1 c2 c3 c4 => (hG' c c1 c2 c3).trans (f c c1 c2 c3 c4)
    have gG : PTs G q (prc I (some X)) m ((p * 6 + w) * 2 + b) := fun p' w' b' a1 a2 a3 a4 => by rw [hG' (q + 8) (by omega) (by omega) (by omega)]; exact g p' w' b' a1 a2 a3 a4
    rw [f 68 (by decide) (by decide) (by decide) (by omega)]
    cases hi : isb (TL (some X) 3 (wdp (I 68) p w b (-1))) with
    | true =>
      refine am_ifn (show ¬ b1 true = 0 by decide) ⟨k9, _, o9, by rw [t8], gs, ?_⟩
      rw [cs]
      refine ih _ (fun c c1 c2 c3 c4 => ?_) (PTs_u gG hp hm hw (by omega) (prc_1 h hi).symm)
      rw [uu_h c4]; exact hG c c1 c2 c3 c4
    | false =>
      refine am_ifp (show b1 false = 0 from rfl) ?_
      refine c109s (PWd_P h q99 hG) hX (hL _ hG) (smI_n (by omega : w ≤ 100)) (smI_n (by omega : b ≤ 100)) (fun F hF' => ?_)
      have hF : frP q I F := fun c c1 c2 c3 c4 => (hF' c c1 c2 c3).trans (hG c c1 c2 c3 c4)
      have gF : PTs F q (prc I (some X)) m ((p * 6 + w) * 2 + b) := fun p' w' b' a1 a2 a3 a4 => by rw [hF' (q + 8) (by omega) (by omega) (by omega)]; exact gG p' w' b' a1 a2 a3 a4
      rw [hG 68 (by decide) (by decide) (by decide) (by omega), hG 5 (by decide) (by decide) (by decide) (by omega)]
      refine ⟨k9, _, o9, by rw [t8], gs, ?_⟩
      rw [cs]
      refine ih _ (fun c c1 c2 c3 c4 => ?_) (PTs_u gF hp hm hw (by omega) (prc_0 h hi).symm)
      rw [uu_h c4]; exact hF c c1 c2 c3 c4
theorem l139bs {T : Nat → Nat × Nat} {r : Nat → Nat → Option Nat} {q m : Nat} {I : am_I} {X : LWX} {t : Nat} (hX : okX X) (hL : ∀ G, frP q I G → LAWc T r G t X) {p : Nat} {E : Int32 → am_I → Prop} (q99 : 99 ≤ q) (ob : OB T r q) (hm : m ≤ 8) (h : PWd I m p) (hp : p < m) (hE : ∀ u J, frP q I J → PTs J q (prc I (some X)) m ((p + 1) * 12) → E u J) : ∀ k w J, w + k = 6 → frP q I J → PTs J q (prc I (some X)) m ((p * 6 + w) * 2) → lw_139_24a (k + 1) q t (nI p) (nI w) T r J E
  | 0, w, J, hb, f, g => by
    have e : w = 6 := by omega
    subst e
    unfold lw_139_24a
    rw [if_pos (by decide)]
    rw [show (p * 6 + 6) * 2 = (p + 1) * 12 by omega] at g
    exact hE _ J f g
  | k + 1, w, J, hb, f, g => by
    have ih := fun G => l139bs hX hL q99 ob hm h hp hE k (w + 1) G (by omega)
    rw [nI_succ] at ih
    unfold lw_139_24a
    rw [if_neg (show ¬ (6 : Int32) ≤ nI w from nI_ge (b := 6) (by omega) (by decide))]
    exact ⟨3, l139cs hX hL q99 ob hm h hp (by omega) (fun _ G hG gG => ih G hG gG) 2 0 J (by omega) f g⟩
theorem l139as {T : Nat → Nat × Nat} {r : Nat → Nat → Option Nat} {q m : Nat} {I : am_I} {X : LWX} {t : Nat} (hX : okX X) (hL : ∀ G, frP q I G → LAWc T r G t X) {E : Int32 → am_I → Prop} (q99 : 99 ≤ q) (ob : OB T r q) (hm : m ≤ 8) (em : I 1 10 = nI m) (h : ∀ p, p < m → PWd I m p) (hE : ∀ u J, frP q I J → PTs J q (prc I (some X)) m (m * 12) → E u J) : ∀ k p J, p + k = m → frP q I J → PTs J q (prc I (some X)) m (p * 12) → lw_139_12a (k + 1) q t (nI p) T r J E
  | 0, p, J, hb, f, g => by
    have e : p = m := by omega
    subst e
    unfold lw_139_12a
    rw [f 1 (by decide) (by decide) (by decide) (by omega), em, if_pos (nI_le (Nat.le_refl _) (by omega))]
    exact hE _ J f g
  | k + 1, p, J, hb, f, g => by
    have ih := fun G => l139as hX hL q99 ob hm em h hE k (p + 1) G (by omega)
    rw [nI_succ] at ih
    unfold lw_139_12a
    rw [f 1 (by decide) (by decide) (by decide) (by omega), em, if_neg (nI_ge (by omega) (by omega))]
    rw [show p * 12 = (p * 6 + 0) * 2 by omega] at g
    exact ⟨7, l139bs hX hL q99 ob hm (h p (by omega)) (by omega) (fun _ G hG gG => ih G hG gG) 6 0 J (by omega) f g⟩
theorem q139 {T : Nat → Nat × Nat} {r : Nat → Nat → Option Nat} {q m : Nat} {I : am_I} {fx : Option LWX} {K : am_I → Prop} (q99 : 99 ≤ q) (ob : OB T r q) (hm : m ≤ 8) (em : I 1 10 = nI m) (h : ∀ p, p < m → PWd I m p) (hw : ∀ K : Option Nat → Prop, (∀ o, (o = none ∧ fx = none) ∨ (∃ t X, o = some t ∧ fx = some X ∧ okX X ∧ ∀ G, frP q I G → LAWc T r G t X) → K o) → w_108 (I 1 16) T r I K) (hK : ∀ J, frP q I J → PT J q (prc I fx) m → K J) : w_139 q T r I K := by
  unfold w_139
  refine hw _ (fun o ho => ⟨fun e => ?_, fun t e => ?_⟩)
  · rcases ho with ⟨_, rfl⟩ | ⟨t, X, e2, _⟩
    · exact ⟨m + 1, l139an (E := fun _ J => K J) q99 ob hm em h (fun _ J f g => hK J f (fun p w b a1 a2 a3 => g p w b a1 a2 a3 (by omega))) m 0 I (by omega) (fun _ _ _ _ _ => rfl) (fun p w b _ _ _ a4 => absurd a4 (by omega))⟩
    · rw [e] at e2; exact absurd e2 (by simp)
  · rcases ho with ⟨e2, _⟩ | ⟨t', X, e2, rfl, hX, hL⟩
    · rw [e] at e2; exact absurd e2 (by simp)
    · rw [e] at e2
      have e3 := Option.some.inj e2
      subst e3
      exact ⟨m + 1, l139as (E := fun _ J => K J) hX hL q99 ob hm em h (fun _ J f g => hK J f (fun p w b a1 a2 a3 => g p w b a1 a2 a3 (by omega))) m 0 I (by omega) (fun _ _ _ _ _ => rfl) (fun p w b _ _ _ a4 => absurd a4 (by omega))⟩
