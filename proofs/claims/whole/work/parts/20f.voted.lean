/-! voted -/
def wsm (I : am_I) (fx : Option LWX) (p : Nat) : Nat → Int32
  | 0 => 0
  | j + 1 => wsm I fx p j + sC (I 5 p + 1) (TL fx 0 (wdp (I 68) p j 0 (-1)))
theorem wsm_cg {I J : am_I} {fx : Option LWX} {p : Nat} (h5 : J 5 = I 5) (h68 : J 68 = I 68) : ∀ j, wsm J fx p j = wsm I fx p j
  | 0 => rfl
  | j + 1 => by
    show wsm J fx p j + sC (J 5 p + 1) (TL fx 0 (wdp (J 68) p j 0 (-1))) = wsm I fx p j + sC (I 5 p + 1) (TL fx 0 (wdp (I 68) p j 0 (-1)))
    rw [wsm_cg h5 h68 j, h5, h68]
def frJ (I G : am_I) : Prop := ∀ c, c ≠ 24 → c ≠ 25 → c ≠ 26 → G c = I c
theorem frJ_t {I G H : am_I} (h : frJ I G) (g : frJ G H) : frJ I H := fun c c1 c2 c3 => (g c c1 c2 c3).trans (h c c1 c2 c3)
theorem PWd_J {I G : am_I} {m p : Nat} (h : PWd I m p) (hG : frJ I G) : PWd G m p := PWd_cg h (hG 1 (by decide) (by decide) (by decide)) (hG 4 (by decide) (by decide) (by decide)) (hG 5 (by decide) (by decide) (by decide)) (hG 7 (by decide) (by decide) (by decide)) (hG 12 (by decide) (by decide) (by decide)) (hG 68 (by decide) (by decide) (by decide)) (by rw [hG 66 (by decide) (by decide) (by decide)])
theorem l165n {I : am_I} {m p : Nat} {E : Int32 → Int32 → am_I → Prop} (h : PWd I m p) (hE : ∀ G u, frJ I G → E (wsm I none p 6) u G) : ∀ q j G, j + q = 6 → frJ I G → lw_165n_6 (q + 1) (nI p) (wsm I none p j) (nI j) G E
  | 0, j, G, hj, hG => by
    have e : j = 6 := by omega
    subst e
    unfold lw_165n_6
    rw [if_pos (by decide)]
    exact hE G _ hG
  | q + 1, j, G, hj, hG => by
    unfold lw_165n_6
    rw [if_neg (show ¬ (6 : Int32) ≤ nI j from nI_ge (b := 6) (by omega) (by decide)), ← nI_succ]
    refine c109n (PWd_J h hG) (smI_n (by omega)) smI_0 (fun H hH => ?_)
    rw [hG 5 (by decide) (by decide) (by decide), hG 68 (by decide) (by decide) (by decide)]
    exact l165n h hE q (j + 1) H (by omega) (frJ_t hG hH)
theorem l165s {T : Nat → Nat × Nat} {r : Nat → Nat → Option Nat} {I : am_I} {X : LWX} {t m p : Nat} {E : Int32 → Int32 → am_I → Prop} (h : PWd I m p) (hX : okX X) (hL : LAWc T r I t X) (hE : ∀ G u, frJ I G → E (wsm I (some X) p 6) u G) : ∀ q j G, j + q = 6 → frJ I G → lw_165s_6 (q + 1) t (nI p) (wsm I (some X) p j) (nI j) T r G E
  | 0, j, G, hj, hG => by
    have e : j = 6 := by omega
    subst e
    unfold lw_165s_6
    rw [if_pos (by decide)]
    exact hE G _ hG
  | q + 1, j, G, hj, hG => by
    unfold lw_165s_6
    rw [if_neg (show ¬ (6 : Int32) ≤ nI j from nI_ge (b := 6) (by omega) (by decide)), ← nI_succ]
    refine c109s (PWd_J h hG) hX (LAWc_cg hL (fun c hc => hG c (by omega) (by omega) (by omega))) (smI_n (by omega)) smI_0 (fun H hH => ?_)
    rw [hG 5 (by decide) (by decide) (by decide), hG 68 (by decide) (by decide) (by decide)]
    exact l165s h hX hL hE q (j + 1) H (by omega) (frJ_t hG hH)
theorem c165n {I : am_I} {m p : Nat} {K : Int32 → am_I → Prop} (h : PWd I m p) (hK : ∀ G, frJ I G → K (wsm I none p 6) G) : w_165n (nI p) I K := by
  unfold w_165n
  exact ⟨7, l165n (E := fun o3 _ I5 => K o3 I5) h (fun G _ hG => hK G hG) 6 0 I (by omega) (fun _ _ _ _ => rfl)⟩
theorem c165s {T : Nat → Nat × Nat} {r : Nat → Nat → Option Nat} {I : am_I} {X : LWX} {t m p : Nat} {K : Int32 → am_I → Prop} (h : PWd I m p) (hX : okX X) (hL : LAWc T r I t X) (hK : ∀ G, frJ I G → K (wsm I (some X) p 6) G) : w_165s t (nI p) T r I K := by
  unfold w_165s
  exact ⟨7, l165s (E := fun o3 _ I5 => K o3 I5) h hX hL (fun G _ hG => hK G hG) 6 0 I (by omega) (fun _ _ _ _ => rfl)⟩
def vtd (I : am_I) (lx fx : Option LWX) (p : Nat) : Bool := !decide (wsm I fx p 6 ≤ wsm I lx p 6)
theorem l164nn {T : Nat → Nat × Nat} {r : Nat → Nat → Option Nat} {I : am_I} {m : Nat} {E : Int32 → Int32 → am_I → Prop} (hm : m ≤ 8) (em : I 1 10 = nI m) (hP : ∀ p, p < m → PWd I m p) (hE : ∀ G u, frJ I G → E (nI (acc (vtd I none none) m)) u G) : ∀ q j G, j + q = m → frJ I G → lw_164n_15 (q + 1) (nI (acc (vtd I none none) j)) (nI j) T r G E
  | 0, j, G, hj, hG => by
    have e : j = m := by omega
    subst e
    unfold lw_164n_15
    rw [hG 1 (by decide) (by decide) (by decide), em, if_pos (nI_le (Nat.le_refl _) (by omega))]
    exact hE G _ hG
  | q + 1, j, G, hj, hG => by
    have ih := fun H => l164nn (T := T) (r := r) hm em hP hE q (j + 1) H (by omega)
    have ea : acc (vtd I none none) (j + 1) = (if vtd I none none j = true then acc (vtd I none none) j ||| 2 ^ j else acc (vtd I none none) j) := rfl
    rw [ea] at ih
    unfold lw_164n_15
    rw [hG 1 (by decide) (by decide) (by decide), em, if_neg (nI_ge (by omega) (by omega)), ← nI_succ]
    refine c165n (PWd_J (hP j (by omega)) hG) (fun H hH' => ?_)
    have hH : frJ I H := frJ_t hG hH'
    refine c165n (PWd_J (hP j (by omega)) hH) (fun F hF' => ?_)
    have hF : frJ I F := frJ_t hH hF'
    rw [wsm_cg (hG 5 (by decide) (by decide) (by decide)) (hG 68 (by decide) (by decide) (by decide)), wsm_cg (hH 5 (by decide) (by decide) (by decide)) (hH 68 (by decide) (by decide) (by decide))]
    unfold vtd at ih
    by_cases c : wsm I none j 6 ≤ wsm I none j 6
    · refine am_ifp c ?_
      rw [decide_eq_true c] at ih
      exact ih F hF
    · refine am_ifn c ?_
      rw [decide_eq_false c] at ih
      rw [q1s j (by omega), fa_or]
      exact ih F hF
theorem l164ns {T : Nat → Nat × Nat} {r : Nat → Nat → Option Nat} {I : am_I} {m : Nat} {Y : LWX} {v3 : Nat} {E : Int32 → Int32 → am_I → Prop} (hm : m ≤ 8) (em : I 1 10 = nI m) (hP : ∀ p, p < m → PWd I m p) (hY : okX Y) (hM : LAWc T r I v3 Y) (hE : ∀ G u, frJ I G → E (nI (acc (vtd I none (some Y)) m)) u G) : ∀ q j G, j + q = m → frJ I G → lw_164n_15a (q + 1) v3 (nI (acc (vtd I none (some Y)) j)) (nI j) T r G E
  | 0, j, G, hj, hG => by
    have e : j = m := by omega
    subst e
    unfold lw_164n_15a
    rw [hG 1 (by decide) (by decide) (by decide), em, if_pos (nI_le (Nat.le_refl _) (by omega))]
    exact hE G _ hG
  | q + 1, j, G, hj, hG => by
    have ih := fun H => l164ns (T := T) (r := r) hm em hP hY hM hE q (j + 1) H (by omega)
    have ea : acc (vtd I none (some Y)) (j + 1) = (if vtd I none (some Y) j = true then acc (vtd I none (some Y)) j ||| 2 ^ j else acc (vtd I none (some Y)) j) := rfl
    rw [ea] at ih
    unfold lw_164n_15a
    rw [hG 1 (by decide) (by decide) (by decide), em, if_neg (nI_ge (by omega) (by omega)), ← nI_succ]
    refine c165n (PWd_J (hP j (by omega)) hG) (fun H hH' => ?_)
    have hH : frJ I H := frJ_t hG hH'
    refine c165s (PWd_J (hP j (by omega)) hH) hY (LAWc_cg hM (fun c hc => hH c (by omega) (by omega) (by omega))) (fun F hF' => ?_)
    have hF : frJ I F := frJ_t hH hF'
    rw [wsm_cg (hG 5 (by decide) (by decide) (by decide)) (hG 68 (by decide) (by decide) (by decide)), wsm_cg (hH 5 (by decide) (by decide) (by decide)) (hH 68 (by decide) (by decide) (by decide))]
    unfold vtd at ih
    by_cases c : wsm I (some Y) j 6 ≤ wsm I none j 6
    · refine am_ifp c ?_
      rw [decide_eq_true c] at ih
      exact ih F hF
    · refine am_ifn c ?_
      rw [decide_eq_false c] at ih
      rw [q1s j (by omega), fa_or]
      exact ih F hF
theorem l164sn {T : Nat → Nat × Nat} {r : Nat → Nat → Option Nat} {I : am_I} {m : Nat} {X : LWX} {v2 : Nat} {E : Int32 → Int32 → am_I → Prop} (hm : m ≤ 8) (em : I 1 10 = nI m) (hP : ∀ p, p < m → PWd I m p) (hX : okX X) (hL : LAWc T r I v2 X) (hE : ∀ G u, frJ I G → E (nI (acc (vtd I (some X) none) m)) u G) : ∀ q j G, j + q = m → frJ I G → lw_164s_15 (q + 1) v2 (nI (acc (vtd I (some X) none) j)) (nI j) T r G E
  | 0, j, G, hj, hG => by
    have e : j = m := by omega
    subst e
    unfold lw_164s_15
    rw [hG 1 (by decide) (by decide) (by decide), em, if_pos (nI_le (Nat.le_refl _) (by omega))]
    exact hE G _ hG
  | q + 1, j, G, hj, hG => by
    have ih := fun H => l164sn (T := T) (r := r) hm em hP hX hL hE q (j + 1) H (by omega)
    have ea : acc (vtd I (some X) none) (j + 1) = (if vtd I (some X) none j = true then acc (vtd I (some X) none) j ||| 2 ^ j else acc (vtd I (some X) none) j) := rfl
    rw [ea] at ih
    unfold lw_164s_15
    rw [hG 1 (by decide) (by decide) (by decide), em, if_neg (nI_ge (by omega) (by omega)), ← nI_succ]
    refine c165s (PWd_J (hP j (by omega)) hG) hX (LAWc_cg hL (fun c hc => hG c (by omega) (by omega) (by omega))) (fun H hH' => ?_)
    have hH : frJ I H := frJ_t hG hH'
    refine c165n (PWd_J (hP j (by omega)) hH) (fun F hF' => ?_)
    have hF : frJ I F := frJ_t hH hF'
    rw [wsm_cg (hG 5 (by decide) (by decide) (by decide)) (hG 68 (by decide) (by decide) (by decide)), wsm_cg (hH 5 (by decide) (by decide) (by decide)) (hH 68 (by decide) (by decide) (by decide))]
    unfold vtd at ih
    by_cases c : wsm I none j 6 ≤ wsm I (some X) j 6
    · refine am_ifp c ?_
      rw [decide_eq_true c] at ih
      exact ih F hF
    · refine am_ifn c ?_
      rw [decide_eq_false c] at ih
      rw [q1s j (by omega), fa_or]
      exact ih F hF
theorem l164ss {T : Nat → Nat × Nat} {r : Nat → Nat → Option Nat} {I : am_I} {m : Nat} {X : LWX} {v2 : Nat} {Y : LWX} {v3 : Nat} {E : Int32 → Int32 → am_I → Prop} (hm : m ≤ 8) (em : I 1 10 = nI m) (hP : ∀ p, p < m → PWd I m p) (hX : okX X) (hL : LAWc T r I v2 X) (hY : okX Y) (hM : LAWc T r I v3 Y) (hE : ∀ G u, frJ I G → E (nI (acc (vtd I (some X) (some Y)) m)) u G) : ∀ q j G, j + q = m → frJ I G → lw_164s_15a (q + 1) v2 v3 (nI (acc (vtd I (some X) (some Y)) j)) (nI j) T r G E
  | 0, j, G, hj, hG => by
    have e : j = m := by omega
    subst e
    unfold lw_164s_15a
    rw [hG 1 (by decide) (by decide) (by decide), em, if_pos (nI_le (Nat.le_refl _) (by omega))]
    exact hE G _ hG
  | q + 1, j, G, hj, hG => by
    have ih := fun H => l164ss (T := T) (r := r) hm em hP hX hL hY hM hE q (j + 1) H (by omega)
    have ea : acc (vtd I (some X) (some Y)) (j + 1) = (if vtd I (some X) (some Y) j = true then acc (vtd I (some X) (some Y)) j ||| 2 ^ j else acc (vtd I (some X) (some Y)) j) := rfl
    rw [ea] at ih
    unfold lw_164s_15a
    rw [hG 1 (by decide) (by decide) (by decide), em, if_neg (nI_ge (by omega) (by omega)), ← nI_succ]
    refine c165s (PWd_J (hP j (by omega)) hG) hX (LAWc_cg hL (fun c hc => hG c (by omega) (by omega) (by omega))) (fun H hH' => ?_)
    have hH : frJ I H := frJ_t hG hH'
    refine c165s (PWd_J (hP j (by omega)) hH) hY (LAWc_cg hM (fun c hc => hH c (by omega) (by omega) (by omega))) (fun F hF' => ?_)
    have hF : frJ I F := frJ_t hH hF'
    rw [wsm_cg (hG 5 (by decide) (by decide) (by decide)) (hG 68 (by decide) (by decide) (by decide)), wsm_cg (hH 5 (by decide) (by decide) (by decide)) (hH 68 (by decide) (by decide) (by decide))]
    unfold vtd at ih
    by_cases c : wsm I (some Y) j 6 ≤ wsm I (some X) j 6
    · refine am_ifp c ?_
      rw [decide_eq_true c] at ih
      exact ih F hF
    · refine am_ifn c ?_
      rw [decide_eq_false c] at ih
      rw [q1s j (by omega), fa_or]
      exact ih F hF
theorem l288 {I : am_I} {L : am_J} {fx : Option LWX} {m p : Nat} {which : Int32} {E : Int32 → Int32 → am_I → am_J → Prop} (h : PWd I m p) (hL : LOr (I 68) which fx) (hE : ∀ G M u, frL I G L M → E (wsm I fx p 6) u G M) : ∀ q j G M, j + q = 6 → frL I G L M → lw_288_5 (q + 1) which (nI p) (wsm I fx p j) (nI j) G M E
  | 0, j, G, M, hj, hG => by
    have e : j = 6 := by omega
    subst e
    unfold lw_288_5
    rw [if_pos (by decide)]
    exact hE G M _ hG
  | q + 1, j, G, M, hj, hG => by
    unfold lw_288_5
    rw [if_neg (show ¬ (6 : Int32) ≤ nI j from nI_ge (b := 6) (by omega) (by decide)), ← nI_succ]
    refine r234 (fx := fx) (PWd_fr h hG) (by rw [hG.1 68 (by decide)]; exact hL) (smI_n (by omega)) smI_0 (fun H N hH => ?_)
    rw [hG.1 5 (by decide), hG.1 68 (by decide)]
    exact l288 h hL hE q (j + 1) H N (by omega) (frL_t hG hH)
theorem r288 {I : am_I} {L : am_J} {fx : Option LWX} {m p : Nat} {which : Int32} {K : Int32 → am_I → am_J → Prop} (h : PWd I m p) (hL : LOr (I 68) which fx) (hK : ∀ G M, frL I G L M → K (wsm I fx p 6) G M) : w_288 which (nI p) I L K := by
  unfold w_288
  exact ⟨7, l288 (E := fun o4 _ I6 L7 => K o4 I6 L7) h hL (fun G M _ hG => hK G M hG) 6 0 I L (by omega) (frL_0 I L)⟩
theorem l287 {I : am_I} {L : am_J} {lx fx : Option LWX} {m : Nat} {which : Int32} {E : Int32 → Int32 → am_I → am_J → Prop} (hm : m ≤ 8) (em : I 68 1 = nI m) (hP : ∀ p, p < m → PWd I m p) (h1 : LOr (I 68) which lx) (h2 : LOr (I 68) (I 68 4) fx) (hE : ∀ G M u, frL I G L M → E (nI (acc (vtd I lx fx) m)) u G M) : ∀ q j G M, j + q = m → frL I G L M → lw_287_19 (q + 1) which (nI (acc (vtd I lx fx) j)) (nI j) G M E
  | 0, j, G, M, hj, hG => by
    have e : j = m := by omega
    subst e
    unfold lw_287_19
    rw [hG.1 68 (by decide), em, if_pos (nI_le (Nat.le_refl _) (by omega))]
    exact hE G M _ hG
  | q + 1, j, G, M, hj, hG => by
    have ih := fun H N => l287 hm em hP h1 h2 hE q (j + 1) H N (by omega)
    have ea : acc (vtd I lx fx) (j + 1) = (if vtd I lx fx j = true then acc (vtd I lx fx) j ||| 2 ^ j else acc (vtd I lx fx) j) := rfl
    rw [ea] at ih
    unfold lw_287_19
    rw [hG.1 68 (by decide), em, if_neg (nI_ge (by omega) (by omega)), ← nI_succ]
    refine r288 (PWd_fr (hP j (by omega)) hG) (by rw [hG.1 68 (by decide)]; exact h1) (fun H N hH' => ?_)
    have hH : frL I H L N := frL_t hG hH'
    refine r288 (fx := fx) (PWd_fr (hP j (by omega)) hH) (by rw [hH.1 68 (by decide)]; exact h2) (fun F O hF' => ?_)
    have hF : frL I F L O := frL_t hH hF'
    rw [wsm_cg (hG.1 5 (by decide)) (hG.1 68 (by decide)), wsm_cg (hH.1 5 (by decide)) (hH.1 68 (by decide))]
    have or0 : ∀ y : Nat, nI y ||| 0 = nI y := fun y => by
      rw [show (0 : Int32) = nI 0 from rfl, fa_or, Nat.or_zero]
    unfold vtd at ih
    by_cases c : wsm I fx j 6 ≤ wsm I lx j 6
    · refine am_ifp c ?_
      rw [decide_eq_true c] at ih
      rw [or0]
      exact ih F O hF
    · refine am_ifn c ?_
      rw [decide_eq_false c] at ih
      rw [q1s j (by omega), fa_or]
      exact ih F O hF
theorem vtd_cg {I J : am_I} {lx fx : Option LWX} (h5 : J 5 = I 5) (h68 : J 68 = I 68) : vtd J lx fx = vtd I lx fx := by
  funext p
  unfold vtd
  rw [wsm_cg h5 h68, wsm_cg h5 h68]
theorem o_34 {D : am_P} (hD : FrD D) (hL : FrL D) (hW : hasL D) {N : Nat} {T : Nat → Nat × Nat} {r : Nat → Nat → Option Nat} {I : am_I} {L : am_J} (h : Inv D N T r I L) (x1 : Int32) : op_34 x1 (Inv D) N T r I L := by
  unfold op_34 w_163
  obtain ⟨m, v, hm, hv, e1, e2, e3, hp⟩ := h.1.2.1
  obtain ⟨l, hl, l1, l2, l3, l4⟩ := h.1.2.2.2.1
  have i0 := inv_0 hD h
  have hP : ∀ p, p < m → PWd I m p := fun p hp => PWd_of h.1 e1 hm hp
  obtain ⟨fx, hr, hc⟩ := lawX (hW _ _ _ _ _ h.2) hl l1 (x := I 1 16) (by rw [l3]; exact l4)
  have hr' : LOr (I 68) (I 68 4) fx := by
    rw [l3] at hr
    exact hr
  have body : (x1 = -1 ∨ ∃ k, k < l ∧ x1 = nI k) → w_108 x1 T r I (fun q1 => (q1 = none → w_164n T r I (fun q3 I4 => w_287 x1 I4 L (fun q2 I2 L2 => q3 = q2 ∧ Inv D N T r I2 L2))) ∧ ∀ t2, q1 = some t2 → w_164s t2 T r I (fun q3 I4 => w_287 x1 I4 L (fun q2 I2 L2 => q3 = q2 ∧ Inv D N T r I2 L2))) := by
    intro hx
    obtain ⟨lx, hlr, hlc⟩ := lawX (hW _ _ _ _ _ h.2) hl l1 hx
    have f232 : ∀ G : am_I, G 68 = I 68 → ¬ f_232 x1 (am_u G 66 0 0) = 0 := by
      intro G g68
      unfold f_232
      rcases hx with rfl | ⟨k, hk, rfl⟩
      · rw [if_pos rfl]
        decide
      · rw [if_neg (nb_m1 (by omega)), uu_c (by decide), g68]
        rcases ql (by omega : l ≤ 6) l1 l2 (nI k) with ⟨_, _, g⟩ | ⟨_, a, _⟩
        · exact absurd rfl (g k hk)
        · rw [if_neg (by rw [a]; decide)]
          decide
    have mdl : ∀ G, frJ I G → w_287 x1 G L (fun q2 I2 L2 => nI (acc (vtd I lx fx) m) = q2 ∧ Inv D N T r I2 L2) := by
      intro G hG
      have g68 : G 68 = I 68 := hG 68 (by decide) (by decide) (by decide)
      have e68 : am_u G 66 0 0 68 = I 68 := by rw [uu_h (by decide)]; exact g68
      have e5 : am_u G 66 0 0 5 = I 5 := by rw [uu_h (by decide)]; exact hG 5 (by decide) (by decide) (by decide)
      have hP0 : ∀ p, p < m → PWd (am_u G 66 0 0) m p := fun p hp => PWd_cg (hP p hp) (by rw [uu_h (by decide)]; exact hG 1 (by decide) (by decide) (by decide)) (by rw [uu_h (by decide)]; exact hG 4 (by decide) (by decide) (by decide)) e5 (by rw [uu_h (by decide)]; exact hG 7 (by decide) (by decide) (by decide)) (by rw [uu_h (by decide)]; exact hG 12 (by decide) (by decide) (by decide)) e68 (by rw [uu_n (by decide), hG 66 (by decide) (by decide) (by decide)])
      unfold w_287
      rw [if_neg (f232 G g68)]
      refine ⟨m + 1, l287 (I := am_u G 66 0 0) (lx := lx) (fx := fx) (E := fun o7 _ I9 L10 => nI (acc (vtd I lx fx) m) = o7 ∧ Inv D N T r I9 L10) hm (by rw [e68]; exact e2) hP0 (by rw [e68]; exact hlr) (by rw [e68]; exact hr') (fun F M u hF => ⟨by rw [vtd_cg e5 e68], inv_law hD hL h (fun c _ c1 c2 c3 _ _ => hG c c1 c2 c3) hF⟩) m 0 _ L (by omega) (frL_0 _ _)⟩
    refine hlc _ (fun o ho => ?_)
    rcases ho with ⟨o1, o2⟩ | ⟨t, X, o1, o2, o3, o4⟩
    · refine ⟨fun _ => ?_, fun t ht => by rw [o1] at ht; cases ht⟩
      unfold w_164n
      refine hc _ (fun o' ho' => ?_)
      rcases ho' with ⟨u1, u2⟩ | ⟨t, X, u1, u2, u3, u4⟩
      · refine ⟨fun _ => ?_, fun t ht => by rw [u1] at ht; cases ht⟩
        rw [o2, u2] at mdl
        exact ⟨m + 1, l164nn (E := fun o7 _ I9 => w_287 x1 I9 L (fun q2 I2 L2 => o7 = q2 ∧ Inv D N T r I2 L2)) hm e1 hP (fun G _ hG => mdl G hG) m 0 I (by omega) (fun _ _ _ _ => rfl)⟩
      · refine ⟨(fun hn => by rw [u1] at hn; cases hn), fun t' ht => ?_⟩
        rw [u1] at ht
        rw [← Option.some.inj ht]
        rw [o2, u2] at mdl
        exact ⟨m + 1, l164ns (E := fun o7 _ I9 => w_287 x1 I9 L (fun q2 I2 L2 => o7 = q2 ∧ Inv D N T r I2 L2)) hm e1 hP u3 u4 (fun G _ hG => mdl G hG) m 0 I (by omega) (fun _ _ _ _ => rfl)⟩
    · refine ⟨(fun hn => by rw [o1] at hn; cases hn), fun t' ht => ?_⟩
      rw [o1] at ht
      rw [← Option.some.inj ht]
      unfold w_164s
      refine hc _ (fun o' ho' => ?_)
      rcases ho' with ⟨u1, u2⟩ | ⟨t2, Y, u1, u2, u3, u4⟩
      · refine ⟨fun _ => ?_, fun t ht => by rw [u1] at ht; cases ht⟩
        rw [o2, u2] at mdl
        exact ⟨m + 1, l164sn (E := fun o7 _ I9 => w_287 x1 I9 L (fun q2 I2 L2 => o7 = q2 ∧ Inv D N T r I2 L2)) hm e1 hP o3 o4 (fun G _ hG => mdl G hG) m 0 I (by omega) (fun _ _ _ _ => rfl)⟩
      · refine ⟨(fun hn => by rw [u1] at hn; cases hn), fun t' ht => ?_⟩
        rw [u1] at ht
        rw [← Option.some.inj ht]
        rw [o2, u2] at mdl
        exact ⟨m + 1, l164ss (E := fun o7 _ I9 => w_287 x1 I9 L (fun q2 I2 L2 => o7 = q2 ∧ Inv D N T r I2 L2)) hm e1 hP o3 o4 u3 u4 (fun G _ hG => mdl G hG) m 0 I (by omega) (fun _ _ _ _ => rfl)⟩
  by_cases c : x1 = -1
  · rw [if_pos c]
    exact body (Or.inl c)
  · rw [if_neg c]
    rcases ql (by omega : l ≤ 6) l1 l2 x1 with ⟨a1, a2, _⟩ | ⟨a1, a2, k, hk, ek⟩
    · rw [if_pos a1]
      show w_287 _ _ _ _
      unfold w_287
      refine am_ifp ?_ ⟨rfl, i0⟩
      unfold f_232
      rw [if_neg c]
      rw [if_pos (show f_182 x1.toInt64 0 ((am_u I 66 0 0 68 3).toInt64 - 1) = 0 from a2)]
    · rw [if_neg (by rw [a1]; decide)]
      exact body (Or.inr ⟨k, hk, ek⟩)
