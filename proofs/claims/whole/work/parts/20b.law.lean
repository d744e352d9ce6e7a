/-! tells, by the reference -/
theorem f241 {q : Int64} {v : Int} (e : q.toInt = v) (hv : lim v) : f_241 q 0 999 = cl9 (Int32.ofInt v) := by
  unfold lim at hv
  have ti : (Int32.ofInt v).toInt = v := fb_ofI (by omega) (by omega)
  have l2 : Int64.toInt32 q = Int32.ofInt v := l2i e (by omega) (by omega)
  unfold f_241 cl9
  have z0 : (Int32.toInt64 0).toInt = 0 := rfl
  have z9 : (Int32.toInt64 999).toInt = 999 := rfl
  by_cases c1 : v < 0
  · rw [if_neg (by rw [i0le, lc_lt' e z0]; exact fun q => q c1)]
    rw [if_pos (show Int32.ofInt v < 999 by rw [fa_lt, ti]; show v < 999; omega), if_neg (show ¬ (0 : Int32) < Int32.ofInt v by rw [fa_lt, ti]; show ¬ (0 : Int) < v; omega)]
  · rw [if_pos (by rw [i0le, lc_lt' e z0]; exact c1)]
    by_cases c2 : 999 < v
    · rw [if_neg (by rw [ile0, lc_gt' e z9]; exact fun q => q c2)]
      rw [if_neg (show ¬ Int32.ofInt v < 999 by rw [fa_lt, ti]; show ¬ v < 999; omega)]
      rfl
    · rw [if_pos (by rw [ile0, lc_gt' e z9]; exact c2), l2]
      by_cases c3 : v < 999
      · rw [if_pos (show Int32.ofInt v < 999 by rw [fa_lt, ti]; exact c3)]
        by_cases c4 : v = 0
        · rw [c4]
          rfl
        · rw [if_pos (show (0 : Int32) < Int32.ofInt v by rw [fa_lt, ti]; show (0 : Int) < v; omega)]
      · rw [if_neg (show ¬ Int32.ofInt v < 999 by rw [fa_lt, ti]; exact c3), show v = 999 by omega]
        rfl
def frT (I J : am_I) (L M : am_J) : Prop := (∀ c, c ≠ 66 → J c = I c) ∧ (∀ k, k ≠ 38 → J 66 k = I 66 k) ∧ (∀ c, c ≠ 66 → c ≠ 86 → M c = L c) ∧ ∀ k, k ≠ 39 → k ≠ 40 → M 66 k = L 66 k
theorem frT_t {I J H : am_I} {L M N : am_J} (h : frT I J L M) (g : frT J H M N) : frT I H L N := ⟨fun c hc => (g.1 c hc).trans (h.1 c hc), fun k hk => (g.2.1 k hk).trans (h.2.1 k hk), fun c c1 c2 => (g.2.2.1 c c1 c2).trans (h.2.2.1 c c1 c2), fun k k1 k2 => (g.2.2.2 k k1 k2).trans (h.2.2.2 k k1 k2)⟩
theorem Den_s {C : Nat → Nat × Nat} {a b M : Nat} {f : FN} {d : Nat} (h : Den C a b f d) (hd : d ≤ M) (e : Nat → Nat → Int) : ∃ R, run C M e b a [] = some R ∧ (∀ s, R = some s → ∃ v, s = [v] ∧ f e = some v) ∧ (R = none → f e = none) := by
  have r := Den_run h hd e
  cases hv : f e with
  | none =>
    rw [hv] at r
    exact ⟨_, r, (fun s hs => by cases hs), fun _ => rfl⟩
  | some v =>
    rw [hv] at r
    exact ⟨_, r, (fun s hs => ⟨v, (Option.some.inj hs).symm, rfl⟩), fun h => by cases h⟩
theorem q238 {I : am_I} {L : am_J} {X : LWX} {bs m c : Nat} {wd : Nat → Int} {K : Int32 → am_I → am_J → Prop} (hm : m ≤ 8) (em : I 68 1 = nI m) (eo : I 66 20 = 0) (hbs : bs ≤ 4610) (e34 : I 66 34 = nI bs) (hX : okX X) (hL : LAWr (I 68) bs X) (hw : ∀ w, w < 10 → -1000000000 ≤ wd w ∧ wd w ≤ 1000000000 ∧ (L 84 (w + 1)).toInt = wd w) (hc : c < X.1)
    (k0 : hld X (wenv wd) c = none → ∀ J M, frT I J L M → K 0 J M) (k1 : ∀ v, hld X (wenv wd) c = some v → ∀ J M, frT I J L M → (X.2.1 c = 3 → v = 1) → (X.2.1 c ≠ 3 → (M 66 40).toInt = v ∧ -1000200000 ≤ v ∧ v ≤ 1000200000) → K 1 J M) : w_238 (nI (bs + 2 + 8 * c)) I L K := by
  obtain ⟨n, C, mk, y1, y2, y3, y4, y5⟩ := hL
  have n12 := hX.1
  obtain ⟨kd3, t01⟩ := hX.2 c hc
  obtain ⟨z1, z2, z3, z4, z5⟩ := y3 c hc
  obtain ⟨p1, p2, p3, p4, p5, p6⟩ := y5 c hc
  obtain ⟨pl1, pl2⟩ := pcs_le (y5 c hc)
  have x3 : nI (bs + 2 + 8 * c) + 3 = nI (bs + 2 + 8 * c + 3) := nb_add _ 3
  have x4 : nI (bs + 2 + 8 * c) + 4 = nI (bs + 2 + 8 * c + 4) := nb_add _ 4
  have x5 : nI (bs + 2 + 8 * c) + 5 = nI (bs + 2 + 8 * c + 5) := nb_add _ 5
  have x6 : nI (bs + 2 + 8 * c) + 6 = nI (bs + 2 + 8 * c + 6) := nb_add _ 6
  have g : ∀ i, i ≤ 6 → ¬ (nI (bs + 2 + 8 * c + i) < 0 ∨ 5510 ≤ Int32.toNatClampNeg (nI (bs + 2 + 8 * c + i))) := fun i hi => nb_gd (by omega) (by decide)
  have cl : ∀ i, i ≤ 6 → Int32.toNatClampNeg (nI (bs + 2 + 8 * c + i)) = bs + 2 + 8 * c + i := fun i hi => nI_clamp (by omega)
  have rwd : ∀ (G : am_I) (N : am_J), frT I G L N → ∀ b, b ≤ n → ∀ k, k < b → RWd G N false bs C (wenv wd) m k := fun G N hG b hb k hk => by
    obtain ⟨w1, w2, o1, o2, o3, o4, o5, o6⟩ := y4 k (by omega)
    refine ⟨o1, o4, fun _ => ⟨by rw [hG.1 68 (by decide)]; exact w1, by rw [hG.1 68 (by decide)]; exact w2, o2, o3⟩, (fun q => by cases q), fun h1 => ?_, fun h1 => absurd h1 o2, fun h1 => absurd h1 o3, o6⟩
    have w10 := o5 h1
    obtain ⟨u1, u2, u3⟩ := hw _ w10
    exact ⟨u1, u2, fun _ => ⟨w10, by rw [hG.2.2.1 84 (by decide) (by decide)]; exact u3⟩, fun q => by cases q⟩
  have fr0 : frT I I L L := ⟨fun _ _ => rfl, fun _ _ => rfl, fun _ _ _ => rfl, fun _ _ _ => rfl⟩
  -- the sum, once the test is so
  have sumP : ∀ (G : am_I) (N : am_J), frT I G L N → ¬ (X.2.2.1 c = true ∧ X.2.2.2.1 c (wenv wd) ≠ some 1) → X.2.1 c ≠ 3 → w_239 (nI (mk c 0)) (nI (mk c 1)) G N (fun I1 L2 => if (I1 66 38) = 0 then K 1 I1 (am_u L2 66 40 (L2 66 39)) else K 0 I1 (am_u L2 66 40 (L2 66 39))) := by
    intro G N hG nh k3
    have hh : hld X (wenv wd) c = X.2.2.2.2 c (wenv wd) := by
      unfold hld
      rw [if_neg nh, if_neg k3]
    obtain ⟨R, r1, r2, r3⟩ := Den_s (p4 k3) (M := 400) (Nat.le_refl 400) (wenv wd)
    refine q239 (ord := false) (bs := bs) (C := C) (e := wenv wd) (R := R) hm (by rw [hG.1 68 (by decide)]; exact em) (by rw [hG.2.1 20 (by decide)]; exact eo) (fun _ => ⟨hbs, by rw [hG.2.1 34 (by decide)]; exact e34⟩) pl1 (by omega) (rwd G N hG _ p1) r1 (fun hn J M f1 f2 f3 f4 f5 => ?_) (fun v hv J M f1 f2 f3 f4 f5 f6 f7 f8 => ?_) (fun s hs => ?_)
    · refine am_ifn (by rw [f3]; decide) (k0 (hh.trans (r3 hn)) J _ (frT_t hG ⟨f1, f2, fun c c1 c2 => by rw [uu_h c1]; exact f4 c c1 c2, fun k k1 k2 => by rw [uu_n k2]; exact f5 k k1⟩))
    · obtain ⟨v', q1, q2⟩ := r2 _ hv
      have ev : v' = v := by
        have := List.cons.inj q1
        exact this.1.symm
      rw [ev] at q2
      refine am_ifp f3 (k1 v (hh.trans q2) J _ (frT_t hG ⟨f1, f2, fun c c1 c2 => by rw [uu_h c1]; exact f4 c c1 c2, fun k k1 k2 => by rw [uu_n k2]; exact f5 k k1⟩) (fun q => absurd q k3) (fun _ => ⟨by rw [uu_e]; exact f6, f7, f8⟩))
    · obtain ⟨v, q1, _⟩ := r2 s hs
      exact ⟨v, q1⟩
  unfold w_238
  rw [x5, x6]
  refine ⟨g 5 (by decide), g 6 (by decide), ?_⟩
  rw [cl 5 (by decide), cl 6 (by decide), z4, z5]
  have kk : nI (X.2.1 c) = 3 ↔ X.2.1 c = 3 := nb_inj (b := 3) (by omega) (by decide)
  have c0 : Int32.toNatClampNeg (nI (bs + 2 + 8 * c)) = bs + 2 + 8 * c := cl 0 (by decide)
  have g0 := g 0 (by decide)
  cases hht : X.2.2.1 c with
  | false =>
    have nh : ¬ (X.2.2.1 c = true ∧ X.2.2.2.1 c (wenv wd) ≠ some 1) := by
      rw [hht]
      exact fun q => by cases q.1
    rw [if_pos (by rw [p5 hht]; exact nI_le (Nat.le_refl _) (by omega))]
    refine ⟨g0, ?_⟩
    rw [c0, z1]
    by_cases k3 : X.2.1 c = 3
    · rw [if_pos (kk.mpr k3)]
      have hh : hld X (wenv wd) c = some 1 := by
        unfold hld
        rw [if_neg nh, if_pos k3]
      exact k1 1 hh I L fr0 (fun _ => rfl) (fun q => absurd k3 q)
    · rw [if_neg (fun q => k3 (kk.mp q)), x3, x4]
      refine ⟨g 3 (by decide), g 4 (by decide), ?_⟩
      rw [cl 3 (by decide), cl 4 (by decide), z2, z3]
      exact sumP I L fr0 nh k3
  | true =>
    have dt := p6 hht
    rw [if_neg (nI_ge dt.1 (by omega))]
    refine ⟨fun q => g 5 (by decide) (by rw [cl 5 (by decide)]; exact q), fun q => g 6 (by decide) (by rw [cl 6 (by decide)]; exact q), ?_⟩
    obtain ⟨R, r1, r2, r3⟩ := Den_s dt (M := 400) (Nat.le_refl 400) (wenv wd)
    refine q239 (ord := false) (bs := bs) (C := C) (e := wenv wd) (R := R) hm em eo (fun _ => ⟨hbs, e34⟩) pl2 (by omega) (rwd I L fr0 _ p2) r1 (fun hn J M f1 f2 f3 f4 f5 => ?_) (fun v hv J M f1 f2 f3 f4 f5 f6 f7 f8 => ?_) (fun s hs => ?_)
    · refine am_ifn (by rw [f3]; decide) (k0 ?_ J M ⟨f1, f2, f4, fun k k1 _ => f5 k k1⟩)
      unfold hld
      rw [if_pos ⟨hht, by rw [r3 hn]; simp⟩]
    · refine am_ifp f3 ?_
      obtain ⟨v', q1, q2⟩ := r2 _ hv
      have ev : v' = v := (List.cons.inj q1).1.symm
      rw [ev] at q2
      have hG : frT I J L M := ⟨f1, f2, f4, fun k k1 _ => f5 k k1⟩
      rcases t01 hht _ v q2 with vz | vz
      · refine am_ifp ((lc_eq' f6 (show Int64.toInt 0 = 0 from rfl)).mpr vz) (k0 ?_ J M hG)
        unfold hld
        rw [if_pos ⟨hht, by rw [q2, vz]; simp⟩]
      · have nh : ¬ (X.2.2.1 c = true ∧ X.2.2.2.1 c (wenv wd) ≠ some 1) := by
          rw [q2, vz]
          exact fun q => q.2 rfl
        refine am_ifn (fun q => by have := (lc_eq' f6 (show Int64.toInt 0 = 0 from rfl)).mp q; omega) ⟨g0, ?_⟩
        rw [c0, f1 68 (by decide), z1]
        by_cases k3 : X.2.1 c = 3
        · rw [if_pos (kk.mpr k3)]
          have hh : hld X (wenv wd) c = some 1 := by
            unfold hld
            rw [if_neg nh, if_pos k3]
          exact k1 1 hh J M hG (fun _ => rfl) (fun q => absurd k3 q)
        · rw [if_neg (fun q => k3 (kk.mp q)), x3, x4]
          refine ⟨g 3 (by decide), g 4 (by decide), ?_⟩
          rw [cl 3 (by decide), cl 4 (by decide), z2, z3]
          exact sumP J M hG nh k3
    · obtain ⟨v, q1, _⟩ := r2 s hs
      exact ⟨v, q1⟩
def tol (x : Int) (o : Option Int) : Int := match o with
  | none => x
  | some v => v
theorem l235 {I : am_I} {L : am_J} {X : LWX} {bs m kind : Nat} {wd : Nat → Int} {x : Int} {E : Int64 → Int32 → am_I → am_J → Prop} (hm : m ≤ 8) (em : I 68 1 = nI m) (eo : I 66 20 = 0) (hbs : bs ≤ 4610) (e34 : I 66 34 = nI bs) (hX : okX X) (hL : LAWr (I 68) bs X) (hk : kind ≤ 3) (hw : ∀ w, w < 10 → -1000000000 ≤ wd w ∧ wd w ≤ 1000000000 ∧ (L 84 (w + 1)).toInt = wd w) (hx : -1000200000 ≤ x ∧ x ≤ 1000200000)
    (hE : ∀ v u J M, frT I J L M → v.toInt = tol x (tel X (wenv wd) kind X.1) → -1000200000 ≤ v.toInt → v.toInt ≤ 1000200000 → E v u J M) : ∀ q c v J M, c + q = X.1 → frT I J L M → v.toInt = tol x (tel X (wenv wd) kind c) → -1000200000 ≤ v.toInt → v.toInt ≤ 1000200000 → lw_235_154 (q + 1) (nI kind) v (nI c) J M E := by
  intro q
  have n12 := hX.1
  have hL' := hL
  obtain ⟨n, C, mk, y1, y2, y3, _, _⟩ := hL'
  have x1 : ∀ J : am_I, (∀ k, k ≠ 38 → J 66 k = I 66 k) → J 66 34 + 1 = nI (bs + 1) := fun J hJ => by
    rw [hJ 34 (by decide), e34]
    exact nb_add _ 1
  have x2 : ∀ J : am_I, (∀ k, k ≠ 38 → J 66 k = I 66 k) → ∀ c, J 66 34 + 2 + 8 * nI c = nI (bs + 2 + 8 * c) := fun J hJ c => by
    rw [hJ 34 (by decide), e34, show nI bs + 2 = nI (bs + 2) from nb_add _ 2, show 8 * nI c = nI (8 * c) from nb_mul 8 c, nb_add]
  induction q with
  | zero =>
    intro c v J M hc hJ hv h1 h2
    have ec : c = X.1 := by omega
    subst ec
    unfold lw_235_154
    rw [x1 J hJ.2.1]
    refine ⟨nb_gd (by omega) (by decide), ?_⟩
    rw [nI_clamp (by omega), hJ.1 68 (by decide), y2, if_pos (nI_le (Nat.le_refl _) (by omega))]
    exact hE v _ J M hJ hv h1 h2
  | succ q ih =>
    intro c v J M hc hJ hv h1 h2
    have J68 : J 68 = I 68 := hJ.1 68 (by decide)
    have et : tel X (wenv wd) kind (c + 1) = (if X.2.1 c = kind then (match hld X (wenv wd) c with
      | some v => some v
      | none => tel X (wenv wd) kind c) else tel X (wenv wd) kind c) := rfl
    obtain ⟨z1, _⟩ := y3 c (by omega)
    obtain ⟨kd3, _⟩ := hX.2 c (by omega)
    unfold lw_235_154
    rw [x1 J hJ.2.1, x2 J hJ.2.1]
    refine ⟨nb_gd (by omega) (by decide), ?_⟩
    rw [nI_clamp (by omega : bs + 1 < 2 ^ 31), J68, y2, if_neg (nI_ge (by omega) (by omega))]
    refine ⟨nb_gd (by omega) (by decide), ?_⟩
    rw [nI_clamp (by omega : bs + 2 + 8 * c < 2 ^ 31), z1, ← nI_succ]
    by_cases ck : X.2.1 c = kind
    · rw [if_pos ck] at et
      rw [if_pos (by rw [ck])]
      refine q238 (X := X) (c := c) (wd := wd) hm (by rw [J68]; exact em) (by rw [hJ.2.1 20 (by decide)]; exact eo) hbs (by rw [hJ.2.1 34 (by decide)]; exact e34) hX (by rw [J68]; exact hL) (fun w hw' => by
        obtain ⟨u1, u2, u3⟩ := hw w hw'
        exact ⟨u1, u2, by rw [hJ.2.2.1 84 (by decide) (by decide)]; exact u3⟩) (by omega) (fun hn G N hG => ?_) (fun v' hv' G N hG g1 g2 => ?_)
      · rw [hn] at et
        exact am_ifp rfl (ih (c + 1) v G N (by omega) (frT_t hJ hG) (by rw [et]; exact hv) h1 h2)
      · rw [hv'] at et
        refine am_ifn (by decide) ?_
        by_cases k3 : kind = 3
        · rw [if_pos (by rw [k3]; rfl)]
          have e1 := g1 (ck.trans k3)
          refine ih (c + 1) 1 G N (by omega) (frT_t hJ hG) ?_ (by decide) (by decide)
          rw [et, e1]
          rfl
        · rw [if_neg (show ¬ nI kind = 3 from fun q => k3 ((nb_inj (b := 3) (by omega) (by decide)).mp q))]
          obtain ⟨w1, w2, w3⟩ := g2 (by rw [ck]; exact k3)
          refine ih (c + 1) _ G N (by omega) (frT_t hJ hG) ?_ (by rw [w1]; exact w2) (by rw [w1]; exact w3)
          rw [et, w1]
          rfl
    · rw [if_neg ck] at et
      rw [if_neg (fun q => ck ((nb_inj (by omega) (by omega)).mp q))]
      exact ih (c + 1) v J M (by omega) hJ (by rw [et]; exact hv) h1 h2
