/-! tokens: which word -/
def eqw (b : Nat → Nat) (p s l : Nat) : Bool := decide (∀ j, j < l → b (p + j) = wsC (s + j))
theorem l53 {I : am_I} {b : Nat → Nat} {z p s l : Nat} {K : Int32 → Prop} (h : BY I b z) (hp : p + l ≤ z) (hs : s + l ≤ wsL) (hK : K (b1 (eqw b p s l))) : ∀ k j, j + k = l → (∀ i, i < j → b (p + i) = wsC (s + i)) → lw_53_3 (k + 1) (nI p) (nI s) (nI l) (nI j) I (fun _ => K 1) K
  | 0, j, hj, e => by
    have e1 : j = l := by omega
    subst e1
    have z4 := h.1
    unfold lw_53_3
    rw [if_pos (nI_le (Nat.le_refl _) (by omega))]
    have k : eqw b p s j = true := decide_eq_true e
    rw [k] at hK
    exact hK
  | k + 1, j, hj, e => by
    have z4 := h.1
    have wl := wsL_le
    obtain ⟨b1', b2⟩ := h.2.2 (p + j) (by omega)
    unfold lw_53_3
    rw [if_neg (nI_ge (by omega) (by omega)), nb_add, nb_add]
    refine ⟨nb_gd (by omega) (by decide), q48 (by omega) ?_⟩
    rw [nI_clamp (by omega : p + j < 2 ^ 31), b2]
    have w1 := (ws_ok (s + j) (by omega)).1
    by_cases y : b (p + j) = wsC (s + j)
    · refine am_ifp (by rw [y]) ?_
      rw [← nI_succ]
      refine l53 h hp hs hK k (j + 1) (by omega) (fun i hi => ?_)
      by_cases x : i = j
      · subst x; exact y
      · exact e i (by omega)
    · have n : eqw b p s l = false := decide_eq_false (fun q => y (q j (by omega)))
      rw [n] at hK
      exact am_ifn (fun q => y ((nb_inj (by omega) (by omega)).mp q)) hK
def wof (b : Nat → Nat) (p l : Nat) : Nat → Nat → Nat → Nat → Nat
  | 0, w, _, _ => w
  | f + 1, w, s, i => if wsC i = 32 then (if i - s = l ∧ eqw b p s l = true then w else wof b p l f (w + 1) (i + 1) (i + 1)) else wof b p l f w s (i + 1)
theorem q46 {K : Int32 → Prop} (hK : K (nI wsL)) : w_46 K := by
  unfold w_46 w_47
  show K (Int32.ofNat (am_pe (0, fun _ => 0) 4).1 >>> ((0 : Int32) &&& 31))
  rw [show (Int32.ofNat (am_pe (0, fun _ => 0) 4).1) >>> ((0 : Int32) &&& 31) = nI wsL by decide +kernel]
  exact hK
theorem l45 {I : am_I} {b : Nat → Nat} {z p e : Nat} {K : Int32 → Prop} (h : BY I b z) (hp : p ≤ e) (he : e ≤ z) : ∀ f w s i, i + f = wsL → s ≤ i → w ≤ i → K (nI (wof b p (e - p) f w s i)) → lw_45_8 (f + 1) (nI p) (nI e) (nI w) (nI s) (nI i) I (fun o4 _ _ => K o4) K
  | 0, w, s, i, hi, hs, hw, hK => by
    have wl := wsL_le
    unfold lw_45_8
    refine q46 ?_
    rw [if_pos (nI_le (by omega) (by omega))]
    exact hK
  | f + 1, w, s, i, hi, hs, hw, hK => by
    have wl := wsL_le
    have z4 := h.1
    have w1 := (ws_ok i (by omega)).1
    have hK : K (nI (if wsC i = 32 then (if i - s = e - p ∧ eqw b p s (e - p) = true then w else wof b p (e - p) f (w + 1) (i + 1) (i + 1)) else wof b p (e - p) f w s (i + 1))) := hK
    unfold lw_45_8
    refine q46 ?_
    rw [if_neg (nI_ge (by omega) (by omega))]
    refine q48 (by omega) ?_
    by_cases y : wsC i = 32
    · rw [if_pos y] at hK
      refine am_ifp (by rw [y]; rfl) ?_
      rw [nI_sub hs, nI_sub hp, ← nI_succ, ← nI_succ]
      by_cases x : i - s = e - p
      · refine am_ifp (by rw [x]) ?_
        rw [x]
        unfold w_53
        refine ⟨e - p + 1, l53 (K := fun q3 => if q3 = 0 then lw_45_8 (f + 1) (nI p) (nI e) (nI (w + 1)) (nI (i + 1)) (nI (i + 1)) I (fun o4 _ _ => K o4) K else K (nI w)) h (by omega) (by omega) ?_ (e - p) 0 (by omega) (fun i hi => absurd hi (by omega))⟩
        cases v : eqw b p s (e - p) with
        | true =>
          rw [if_pos ⟨x, v⟩] at hK
          exact am_ifn (show ¬ b1 true = 0 by decide) hK
        | false =>
          rw [if_neg (fun q => by rw [v] at q; exact absurd q.2 (by decide))] at hK
          exact am_ifp rfl (l45 h hp he f (w + 1) (i + 1) (i + 1) (by omega) (Nat.le_refl _) (by omega) hK)
      · rw [if_neg (fun q => x q.1)] at hK
        exact am_ifn (fun q => x ((nb_inj (by omega) (by omega)).mp q)) (l45 h hp he f (w + 1) (i + 1) (i + 1) (by omega) (Nat.le_refl _) (by omega) hK)
    · rw [if_neg y] at hK
      refine am_ifn (fun q => y ((nb_inj (b := 32) (by omega) (by decide)).mp q)) ?_
      rw [← nI_succ]
      exact l45 h hp he f w s (i + 1) (by omega) (by omega) (by omega) hK
set_option maxRecDepth 10000 in
theorem q45 {I : am_I} {b : Nat → Nat} {z p e f : Nat} {K : Int32 → Prop} (hf : f = wsL) (h : BY I b z) (hp : p ≤ e) (he : e ≤ z) (hK : K (nI (wof b p (e - p) f 0 0 0))) : w_45 (nI p) (nI e) I K := by
  unfold w_45
  have hw : 0 + f = wsL := by rw [Nat.zero_add]; exact hf
  refine ⟨f + 1, ?_⟩
  show lw_45_8 (f + 1) (nI p) (nI e) (nI 0) (nI 0) (nI 0) I (fun o4 _ _ => K o4) K
  have l := @l45 I b z p e K h hp he f 0 0 0 hw (Nat.le_refl _) (Nat.le_refl _) hK
  exact l
/-- the class's token from p to e -/
def tkc (b : Nat → Nat) (p e : Nat) : Nat := if tL (b p) = true then 1000000 + wof b p (e - p) wsL 0 0 0 else if tD (b p) = true then nmc b p (e - p) else 2000000 + b p
