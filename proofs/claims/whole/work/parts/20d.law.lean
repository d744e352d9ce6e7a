/-! costs, bars, gains, fines, staying out: the reference -/
def frL (I J : am_I) (L M : am_J) : Prop := (∀ c, c ≠ 66 → J c = I c) ∧ (∀ k, k ≠ 34 → k ≠ 38 → J 66 k = I 66 k) ∧ (∀ c, c ≠ 66 → c ≠ 84 → c ≠ 86 → M c = L c) ∧ ∀ k, k ≠ 39 → k ≠ 40 → M 66 k = L 66 k
theorem frL_0 (I : am_I) (L : am_J) : frL I I L L := ⟨fun _ _ => rfl, fun _ _ _ => rfl, fun _ _ _ _ => rfl, fun _ _ _ => rfl⟩
theorem frL_t {I J H : am_I} {L M N : am_J} (h : frL I J L M) (g : frL J H M N) : frL I H L N := ⟨fun c hc => (g.1 c hc).trans (h.1 c hc), fun k k1 k2 => (g.2.1 k k1 k2).trans (h.2.1 k k1 k2), fun c c1 c2 c3 => (g.2.2.1 c c1 c2 c3).trans (h.2.2.1 c c1 c2 c3), fun k k1 k2 => (g.2.2.2 k k1 k2).trans (h.2.2.2 k k1 k2)⟩
theorem PWd_fr {I J : am_I} {L M : am_J} {m p : Nat} (h : PWd I m p) (f : frL I J L M) : PWd J m p := PWd_cg h (f.1 1 (by decide)) (f.1 4 (by decide)) (f.1 5 (by decide)) (f.1 7 (by decide)) (f.1 12 (by decide)) (f.1 68 (by decide)) (f.2.1 20 (by decide) (by decide))
theorem smI_64 {x : Int32} {z : Int} (h : smI x z) : (Int32.toInt64 x).toInt = z := by
  rw [h.1]
  exact ofI_64 ⟨by have := h.2.1; omega, by have := h.2.2; omega⟩
theorem r235 {I : am_I} {L : am_J} {fx : Option LWX} {m p kind : Nat} {which x3 x4 x5 : Int32} {wt bf ot x : Int} {x6 : Int64} {K : Int64 → am_I → am_J → Prop} (h : PWd I m p) (hL : LOr (I 68) which fx) (hk : kind ≤ 3) (h3 : smI x3 wt) (h4 : smI x4 bf) (h5 : smI x5 ot) (h6 : x6.toInt = x) (hx : -1000200000 ≤ x ∧ x ≤ 1000200000)
    (hK : ∀ v J M, frL I J L M → v.toInt = tol x (TL fx kind (wdp (I 68) p wt bf ot)) → -1000200000 ≤ v.toInt → v.toInt ≤ 1000200000 → K v J M) : w_235 which (nI kind) (nI p) x3 x4 x5 x6 I L K := by
  unfold w_235
  rcases hL with ⟨e1, e2⟩ | ⟨k, X, e1, k5, e2, hX, hR⟩
  · rw [if_pos e1]
    refine hK x6 I L (frL_0 I L) ?_ (by rw [h6]; exact hx.1) (by rw [h6]; exact hx.2)
    rw [h6, e2]
    rfl
  · obtain ⟨hm, hp, c1, c2, e20, y, w, ky, a, o, d, y1, y2, w1, ky1, a1, o1, d1, f4, f5, f7, f0, f2, f3, r26, r34, r18, r5, r7, r8⟩ := h
    rw [if_neg (by rw [e1]; exact nb_m1 (by omega))]
    obtain ⟨g26, k26⟩ := ixa (a := 26) (n := p) (by omega)
    obtain ⟨g34, k34⟩ := ixa (a := 34) (n := p) (by omega)
    obtain ⟨g18, k18⟩ := ixa (a := 18) (n := p) (by omega)
    have k26 : Int32.toNatClampNeg (26 + nI p) = 26 + p := k26
    have k34 : Int32.toNatClampNeg (34 + nI p) = 34 + p := k34
    have k18 : Int32.toNatClampNeg (18 + nI p) = 18 + p := k18
    refine ⟨g26, g34, g18, ?_⟩
    rw [k26, k34, k18, r18]
    refine q236 (by omega) ?_
    refine q237 (k := 0) (by decide) ?_
    refine q237 (k := 2) (by decide) ?_
    refine q237 (k := 3) (by decide) ?_
    have e110 : (110 : Int32) + 900 * which = nI (110 + 900 * k) := by
      rw [e1, show (900 : Int32) * nI k = nI (900 * k) from nb_mul 900 k]
      exact nb_add 110 _
    rw [e110]
    have q5 : am_u I 66 34 (nI (110 + 900 * k)) 68 (5 + 0) = nI a := r5
    have q7 : am_u I 66 34 (nI (110 + 900 * k)) 68 (5 + 2) = nI o := r7
    have q8 : am_u I 66 34 (nI (110 + 900 * k)) 68 (5 + 3) = nI d := r8
    rw [q5, q7, q8, r26, r34]
    have pl := pc_le ky
    generalize hM : am_u (am_u (am_u (am_u (am_u (am_u (am_u (am_u (am_u (am_u L 84 1 (Int32.toInt64 (nI p))) 84 2 (Int32.toInt64 (nI y))) 84 3 (Int32.toInt64 (nI w))) 84 4 (Int32.toInt64 (nI (pc ky)))) 84 5 (Int32.toInt64 x3)) 84 6 (Int32.toInt64 x4)) 84 7 (Int32.toInt64 x5)) 84 8 (Int32.toInt64 (nI a))) 84 9 (Int32.toInt64 (nI o))) 84 10 (Int32.toInt64 (nI d)) = M0
    have m0 : ∀ c, c ≠ 84 → M0 c = L c := fun c hc => by
      rw [← hM, uu_h hc, uu_h hc, uu_h hc, uu_h hc, uu_h hc, uu_h hc, uu_h hc, uu_h hc, uu_h hc, uu_h hc]
    have hw : ∀ j, j < 10 → -1000000000 ≤ wdp (I 68) p wt bf ot j ∧ wdp (I 68) p wt bf ot j ≤ 1000000000 ∧ (M0 84 (j + 1)).toInt = wdp (I 68) p wt bf ot j := by
      intro j hj
      rw [← hM]
      unfold wdp
      rw [r26, r34, r18, r5, r7, r8, nI_toInt (by omega), nI_toInt (by omega), nI_clamp (by omega), nI_toInt (by omega), nI_toInt (by omega), nI_toInt (by omega)]
      rcases (by omega : j = 0 ∨ j = 1 ∨ j = 2 ∨ j = 3 ∨ j = 4 ∨ j = 5 ∨ j = 6 ∨ j = 7 ∨ j = 8 ∨ j = 9) with rfl | rfl | rfl | rfl | rfl | rfl | rfl | rfl | rfl | rfl
      · exact ⟨by show -1000000000 ≤ (p : Int); omega, by show (p : Int) ≤ 1000000000; omega, l64 (by omega)⟩
      · exact ⟨by show -1000000000 ≤ (y : Int); omega, by show (y : Int) ≤ 1000000000; omega, l64 (by omega)⟩
      · exact ⟨by show -1000000000 ≤ (w : Int); omega, by show (w : Int) ≤ 1000000000; omega, l64 (by omega)⟩
      · exact ⟨by show -1000000000 ≤ (pc ky : Int); omega, by show (pc ky : Int) ≤ 1000000000; omega, l64 (by omega)⟩
      · exact ⟨by show -1000000000 ≤ wt; have := h3.2.1; omega, by show wt ≤ 1000000000; have := h3.2.2; omega, smI_64 h3⟩
      · exact ⟨by show -1000000000 ≤ bf; have := h4.2.1; omega, by show bf ≤ 1000000000; have := h4.2.2; omega, smI_64 h4⟩
      · exact ⟨by show -1000000000 ≤ ot; have := h5.2.1; omega, by show ot ≤ 1000000000; have := h5.2.2; omega, smI_64 h5⟩
      · exact ⟨by show -1000000000 ≤ (a : Int); omega, by show (a : Int) ≤ 1000000000; omega, l64 (by omega)⟩
      · exact ⟨by show -1000000000 ≤ (o : Int); omega, by show (o : Int) ≤ 1000000000; omega, l64 (by omega)⟩
      · exact ⟨by show -1000000000 ≤ (d : Int); omega, by show (d : Int) ≤ 1000000000; omega, l64 (by omega)⟩
    refine ⟨X.1 + 1, l235 (I := am_u I 66 34 (nI (110 + 900 * k))) (L := M0) (X := X) (bs := 110 + 900 * k) (m := m) (kind := kind) (wd := wdp (I 68) p wt bf ot) (x := x) (E := fun o8 _ I10 L11 => K o8 I10 L11) hm (by rw [uu_c (by decide)]; exact c2) (by rw [uu_n (by decide)]; exact e20) (by omega) uu_e hX (by rw [uu_h (by decide)]; exact hR) hk hw hx (fun v u J M hJ hv v1 v2 => hK v J M ⟨fun c hc => by rw [hJ.1 c hc, uu_h hc], fun i i1 i2 => by rw [hJ.2.1 i i2, uu_n i1], fun c c1 c2 c3 => by rw [hJ.2.2.1 c c1 c3, m0 c c2], fun i i1 i2 => by rw [hJ.2.2.2 i i1 i2, m0 66 (by decide)]⟩ (by rw [e2]; exact hv) v1 v2) X.1 0 x6 _ M0 (by omega) ⟨fun _ _ => rfl, fun _ _ => rfl, fun _ _ _ => rfl, fun _ _ _ => rfl⟩ h6 (by rw [h6]; exact hx.1) (by rw [h6]; exact hx.2)⟩
theorem cl9_n {n : Nat} (h : n ≤ 999) : cl9 (nI n) = nI n := by
  unfold cl9
  by_cases c : n < 999
  · rw [if_pos (show nI n < 999 from (nb_lt (b := 999) (by omega) (by decide)).mpr c)]
    by_cases c0 : n = 0
    · rw [c0]
      rfl
    · rw [if_pos (show (0 : Int32) < nI n from (nb_lt (a := 0) (by decide) (by omega)).mpr (by omega))]
  · rw [show n = 999 by omega]
    rfl
theorem sC_tol {n : Nat} {o : Option Int} {q : Int64} (hn : n ≤ 999) (e : q.toInt = tol (n : Int) o) (h1 : -1000200000 ≤ q.toInt) (h2 : q.toInt ≤ 1000200000) : f_241 q 0 999 = sC (nI n) o := by
  rw [f241 e ⟨by omega, by omega⟩]
  cases o with
  | none =>
    show cl9 (Int32.ofInt (n : Int)) = nI n
    rw [ofI_nI]
    exact cl9_n hn
  | some v => rfl
theorem r234 {I : am_I} {L : am_J} {fx : Option LWX} {m p : Nat} {which x2 x3 : Int32} {wt bf : Int} {K : Int32 → am_I → am_J → Prop} (h : PWd I m p) (hL : LOr (I 68) which fx) (h3 : smI x2 wt) (h4 : smI x3 bf) (hK : ∀ J M, frL I J L M → K (sC (I 5 p + 1) (TL fx 0 (wdp (I 68) p wt bf (-1)))) J M) : w_234 which (nI p) x2 x3 I L K := by
  unfold w_234
  have h' := h
  obtain ⟨hm, hp, c1, c2, e20, y, w, ky, a, o, d, y1, y2, w1, ky1, a1, o1, d1, f4, f5, f7, f0, f2, f3, r26, r34, r18, r5, r7, r8⟩ := h'
  obtain ⟨g34, k34⟩ := ixa (a := 34) (n := p) (by omega)
  refine ⟨g34, ?_⟩
  rw [show Int32.toNatClampNeg (34 + nI p) = 34 + p from k34, r34]
  refine r235 (kind := 0) (x := ((w + 1 : Nat) : Int)) h hL (by decide) h3 h4 smI_m1 ?_ (by omega) (fun v J M hJ hv v1 v2 => ?_)
  · rw [lj_add (l64 (by omega : w < 2 ^ 31)) (show Int64.toInt 1 = 1 from rfl) ⟨by omega, by omega⟩ ⟨by decide, by decide⟩]
    omega
  · have k := hK J M hJ
    rw [f5, ← nI_succ] at k
    rw [sC_tol (n := w + 1) (by omega) hv v1 v2]
    exact k
theorem tel_3 {X : LWX} {e : Nat → Nat → Int} : ∀ c v, tel X e 3 c = some v → v = 1
  | 0, v, h => by cases h
  | c + 1, v, h => by
    have h : (if X.2.1 c = 3 then (match hld X e c with
      | some v => some v
      | none => tel X e 3 c) else tel X e 3 c) = some v := h
    by_cases k : X.2.1 c = 3
    · rw [if_pos k] at h
      cases hh : hld X e c with
      | none =>
        rw [hh] at h
        exact tel_3 c v h
      | some u =>
        rw [hh] at h
        unfold hld at hh
        split at hh
        · cases hh
        · rw [← Option.some.inj h, ← Option.some.inj hh]
    · rw [if_neg k] at h
      exact tel_3 c v h
theorem r242 {I : am_I} {L : am_J} {fx : Option LWX} {m p : Nat} {x2 x3 : Int32} {wt bf : Int} {K : Int32 → am_I → am_J → Prop} (h : PWd I m p) (hL : LOr (I 68) (I 68 4) fx) (h3 : smI x2 wt) (h4 : smI x3 bf) (hK : ∀ J M, frL I J L M → K (b1 (isb (TL fx 3 (wdp (I 68) p wt bf (-1))))) J M) : w_242 (nI p) x2 x3 I L K := by
  unfold w_242
  refine r235 (kind := 3) (x := 0) h hL (by decide) h3 h4 smI_m1 rfl (by decide) (fun v J M hJ hv v1 v2 => ?_)
  have k := hK J M hJ
  cases ht : TL fx 3 (wdp (I 68) p wt bf (-1)) with
  | none =>
    rw [ht] at k hv
    refine am_ifn (fun q => ?_) k
    have e := (lc_eq' hv (show Int64.toInt 1 = 1 from rfl)).mp q
    have e : (0 : Int) = 1 := e
    omega
  | some u =>
    rw [ht] at k hv
    refine am_ifp ((lc_eq' hv (show Int64.toInt 1 = 1 from rfl)).mpr ?_) k
    show u = 1
    cases fx with
    | none => cases ht
    | some X => exact tel_3 _ _ ht
theorem r243 {I : am_I} {L : am_J} {fx : Option LWX} {m p : Nat} {x1 : Int32} {ot : Int} {K : Int32 → am_I → am_J → Prop} (h : PWd I m p) (hL : LOr (I 68) (I 68 4) fx) (h3 : smI x1 ot) (hK : ∀ J M, frL I J L M → K (sC (I 5 p * 3) (TL fx 1 (wdp (I 68) p (-1) (-1) ot))) J M) : w_243 (nI p) x1 I L K := by
  unfold w_243
  have h' := h
  obtain ⟨hm, hp, c1, c2, e20, y, w, ky, a, o, d, y1, y2, w1, ky1, a1, o1, d1, f4, f5, f7, f0, f2, f3, r26, r34, r18, r5, r7, r8⟩ := h'
  obtain ⟨g34, k34⟩ := ixa (a := 34) (n := p) (by omega)
  refine ⟨g34, ?_⟩
  rw [show Int32.toNatClampNeg (34 + nI p) = 34 + p from k34, r34]
  refine r235 (kind := 1) (x := ((w * 3 : Nat) : Int)) h hL (by decide) smI_m1 smI_m1 h3 ?_ (by omega) (fun v J M hJ hv v1 v2 => ?_)
  · rw [lj_mul (show Int64.toInt 3 = 3 from rfl) (l64 (by omega : w < 2 ^ 31)) ⟨by decide, by decide⟩ ⟨by omega, by omega⟩]
    omega
  · have k := hK J M hJ
    rw [f5, show nI w * 3 = nI (w * 3) from nb_mul w 3] at k
    rw [sC_tol (n := w * 3) (by omega) hv v1 v2]
    exact k
theorem r244 {I : am_I} {L : am_J} {fx : Option LWX} {m p : Nat} {x1 : Int32} {ot : Int} {K : Int32 → am_I → am_J → Prop} (h : PWd I m p) (hL : LOr (I 68) (I 68 4) fx) (h3 : smI x1 ot) (hK : ∀ J M, frL I J L M → K (sC (I 4 p) (TL fx 2 (wdp (I 68) p (-1) (-1) ot))) J M) : w_244 (nI p) x1 I L K := by
  unfold w_244
  have h' := h
  obtain ⟨hm, hp, c1, c2, e20, y, w, ky, a, o, d, y1, y2, w1, ky1, a1, o1, d1, f4, f5, f7, f0, f2, f3, r26, r34, r18, r5, r7, r8⟩ := h'
  obtain ⟨g26, k26⟩ := ixa (a := 26) (n := p) (by omega)
  refine ⟨g26, ?_⟩
  rw [show Int32.toNatClampNeg (26 + nI p) = 26 + p from k26, r26]
  refine r235 (kind := 2) (x := ((y : Nat) : Int)) h hL (by decide) smI_m1 smI_m1 h3 (l64 (by omega)) (by omega) (fun v J M hJ hv v1 v2 => ?_)
  have k := hK J M hJ
  rw [f4] at k
  rw [sC_tol (n := y) (by omega) hv v1 v2]
  exact k
theorem r245 {I : am_I} {L : am_J} {fx : Option LWX} {m p : Nat} {x1 : Int32} {ot : Int} {K : Int32 → am_I → am_J → Prop} (h : PWd I m p) (hL : LOr (I 68) (I 68 4) fx) (h3 : smI x1 ot) (hK : ∀ J M, frL I J L M → K (b1 (sty I fx p ot)) J M) : w_245 (nI p) x1 I L K := by
  unfold w_245
  refine r243 h hL h3 (fun J M hJ => ?_)
  have J68 : J 68 = I 68 := hJ.1 68 (by decide)
  refine q237 (k := 2) (by decide) ?_
  refine r244 (fx := fx) (PWd_fr h hJ) (by rw [J68]; exact hL) h3 (fun G N hG => ?_)
  have k := hK G N (frL_t hJ hG)
  have e7 : J 68 (5 + 2) = I 12 2 := by
    obtain ⟨hm, hp, c1, c2, e20, y, w, ky, a, o, d, y1, y2, w1, ky1, a1, o1, d1, f4, f5, f7, f0, f2, f3, r26, r34, r18, r5, r7, r8⟩ := h
    rw [J68, f2]
    exact r7
  rw [e7, J68, hJ.1 4 (by decide)]
  unfold sty at k
  by_cases c : 10 * sC (I 5 p * 3) (TL fx 1 (wdp (I 68) p (-1) (-1) ot)) ≤ I 12 2 * sC (I 4 p) (TL fx 2 (wdp (I 68) p (-1) (-1) ot))
  · rw [decide_eq_true c] at k
    exact am_ifp c k
  · rw [decide_eq_false c] at k
    exact am_ifn c k
