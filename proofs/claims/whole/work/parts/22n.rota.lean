/-! rota -/
abbrev DR : am_P := DD 10 RTT PLL
theorem DR_fr : FrD DR := DD_fr RTT_fr PLL_fr
theorem fr09 : am_fr 0 9 := fun _ => rfl
theorem ref27 {N : Nat} {T : Nat → Nat × Nat} {r : Nat → Nat → Option Nat} {J : am_I} {L : am_J} {k m M : Nat} {fx : Option LWX} {A : Int32} (h : Inv DR N T r J L) (hk : k ≤ 7) (hm : m ≤ 8) (hM : M < 2 ^ 31) (em : J 1 10 = nI m) (eM : J 12 1 = nI M) (hL : LOr (J 68) (J 1 16) fx) (hA : A = if k = 1 then nI (WW J fx m M).2.1 else if (WW J fx m M).2.1 = 0 then -1 else if k = 0 then nI (WW J fx m M).1 else nI ((KK J fx m M).getD (k - 2) 0)) : w_271 (nI k) J L (fun q2 I2 L2 => A = q2 ∧ Inv DR N T r I2 L2) := by
  have i0 := inv_0 DR_fr h
  have hs := i0.1
  obtain ⟨m', v, hm', hv, e1, e2, e3, hpp⟩ := hs.2.1
  have emm : m' = m := by
    have e : nI m' = nI m := e1.symm.trans em
    exact (nb_inj (by omega) (by omega)).mp e
  subst emm
  obtain ⟨a, b, c, d, e, t1, t2, t3, t4, t5, t6, t7, t8, t9, t10, t11, t12, t13, t14, t15⟩ := hs.2.2.2.2.1
  have e68 : am_u J 66 0 0 68 6 = nI M := t13.trans (t8.symm.trans eM)
  obtain ⟨l, l1, l2, l3, l4, l5⟩ := hs.2.2.2.1
  have e92 : am_u J 66 0 0 92 0 = 0 := hs.2.2.2.2.2.2.2.2.2.2.2.2.1
  have eW : WW (am_u J 66 0 0) fx m' M = WW J fx m' M ∧ KK (am_u J 66 0 0) fx m' M = KK J fx m' M := WW_cg fx m' M rfl rfl rfl rfl
  have wl : (WW J fx m' M).2.1 ≤ 8 ^ 6 := wy_ways hm 6 []
  have e86 : 8 ^ 6 = 262144 := rfl
  unfold w_271
  have hx : ¬ f_182 (Int32.toInt64 (nI k)) 0 7 = 0 := by
    rw [a7182]
    rcases q13 (nI k) 0 7 (by decide) (by decide) with ⟨_, z⟩ | ⟨z, _⟩
    · exact absurd rfl (z k (by omega) hk)
    · have z : f_13 (nI k) 0 7 = 1 := z
      rw [z]; decide
  rw [if_neg hx]
  refine q272 (m := m') (M := M) (fx := fx) hm hM e2 e68 e92 (fun p hp => PWd_of hs e1 hm hp) ?_ (fun G N' f g92 g46 gz => ?_)
  · have hL2 : LOr (am_u J 66 0 0 68) (J 1 16) fx := hL
    rw [show J 1 16 = am_u J 66 0 0 68 4 from l4] at hL2
    exact hL2
  · rw [eW.1] at g46 gz
    rw [eW.2] at gz
    have fin : Inv DR N T r G N' := inv_scr3 DR_fr DD_L i0 (fun c hc => f.1 c (by omega) (by omega) (by omega) (by omega) (by omega) (by omega)) g92 (fun i hi => f.2.1 i (by omega) (by omega) (by omega) (by omega)) (fun c hc => f.2.2 c (by omega) (by omega) (by omega))
    by_cases k1 : k = 1
    · subst k1
      rw [if_pos rfl] at hA
      refine am_ifp rfl (am_ifp rfl ⟨?_, fin⟩)
      rw [hA, g46]
    · rw [if_neg k1] at hA
      have n1 : ¬ nI k = 1 := fun q => k1 ((nb_inj (b := 1) (by omega) (by decide)).mp q)
      rw [if_neg n1, g46]
      by_cases w0 : (WW J fx m' M).2.1 = 0
      · rw [if_pos w0] at hA
        rw [w0]
        refine am_ifp rfl ?_
        rw [if_neg n1]
        exact ⟨hA, fin⟩
      · rw [if_neg w0] at hA
        obtain ⟨g47, g90⟩ := gz (by omega)
        refine am_ifn (fun q => w0 ((nb_inj (b := 0) (by omega) (by decide)).mp q)) ?_
        by_cases k0 : k = 0
        · subst k0
          rw [if_pos rfl] at hA
          refine am_ifp rfl ⟨?_, fin⟩
          rw [hA, g47]
        · rw [if_neg k0] at hA
          refine am_ifn (fun q => k0 ((nb_inj (b := 0) (by omega) (by decide)).mp q)) ?_
          obtain ⟨k', rfl⟩ : ∃ k', k = k' + 2 := ⟨k - 2, by omega⟩
          have ek : nI (k' + 2) - 2 = nI k' := by
            rw [← nb_add, show nI 2 = 2 from rfl, Int32.add_sub_cancel]
          rw [ek]
          refine ⟨nb_gd (by omega) (by decide), ?_, fin⟩
          rw [hA, nI_clamp (by omega : k' < 2 ^ 31), g90 k' (by omega), show k' + 2 - 2 = k' by omega]
theorem fin27 {N : Nat} {T : Nat → Nat × Nat} {r : Nat → Nat → Option Nat} {J : am_I} {L : am_J} {k q : Nat} (h : Inv DR N T r J L) (hq : r 0 9 = some q) (h1 : ¬ J 0 10 = 0) (hk : k ≤ 7) : wb_135_57 (nI k) N T r J L (fun q' N1 T1 r1 I1 L1 => w_271 (nI k) I1 L1 (fun q2 I2 L2 => q' = q2 ∧ Inv DR N1 T1 r1 I2 L2)) := by
  obtain ⟨q99, qN, ⟨ob, tb⟩, pl⟩ := h.2.2.2.2.2.2.2.2.2 q hq
  rcases pl with pl | ⟨_, fx, m, M, hm, hM, em, eM, hL, p1, p2⟩
  · exact absurd pl h1
  have ers : am_rs r 0 9 = some q := (fr09 r).trans hq
  have wl : (WW J fx m M).2.1 ≤ 8 ^ 6 := wy_ways hm 6 []
  have e86 : 8 ^ 6 = 262144 := rfl
  have R : ∀ A : Int32, (A = if k = 1 then nI (WW J fx m M).2.1 else if (WW J fx m M).2.1 = 0 then -1 else if k = 0 then nI (WW J fx m M).1 else nI ((KK J fx m M).getD (k - 2) 0)) → w_271 (nI k) J L (fun q2 I2 L2 => A = q2 ∧ Inv DR N T r I2 L2) := fun A hA => ref27 h hk hm hM em eM hL hA
  have k9 := ob.1
  have nn : ∀ X : Prop, am_rs r 0 9 = none → X := fun X e => by rw [ers] at e; exact absurd e (by simp)
  unfold wb_135_57
  by_cases k1 : k = 1
  · subst k1
    refine am_ifp rfl ⟨nn _, fun t ht => ?_⟩
    have et : q = t := Option.some.inj (ers.symm.trans ht)
    subst et
    refine ⟨k9, R _ ?_⟩
    rw [if_pos rfl, p1]
  · have n1 : ¬ nI k = 1 := fun z => k1 ((nb_inj (b := 1) (by omega) (by decide)).mp z)
    refine am_ifn n1 ⟨nn _, fun t ht => ?_⟩
    have et : q = t := Option.some.inj (ers.symm.trans ht)
    subst et
    refine ⟨k9, ?_⟩
    rw [p1]
    by_cases w0 : (WW J fx m M).2.1 = 0
    · refine am_ifp (by rw [w0]; rfl) (R _ ?_)
      rw [if_neg k1, if_pos w0]
    · refine am_ifn (fun z => w0 ((nb_inj (b := 0) (by omega) (by decide)).mp z)) ?_
      obtain ⟨p3, p4⟩ := p2 (by omega)
      by_cases k0 : k = 0
      · subst k0
        refine am_ifp rfl ⟨nn _, fun t ht => ?_⟩
        have et : q = t := Option.some.inj (ers.symm.trans ht)
        subst et
        refine ⟨k9, R _ ?_⟩
        rw [if_neg k1, if_neg w0, if_pos rfl, p3]
      · refine am_ifn (fun z => k0 ((nb_inj (b := 0) (by omega) (by decide)).mp z)) ⟨nn _, fun t ht => ?_⟩
        have et : q = t := Option.some.inj (ers.symm.trans ht)
        subst et
        obtain ⟨-, o2, -, -, -, -, -, -, -, t1, -, -, -, -, -, -, -⟩ := ob
        have ek : nI k - 2 = nI (k - 2) := by
          obtain ⟨k', rfl⟩ : ∃ k', k = k' + 2 := ⟨k - 2, by omega⟩
          rw [← nb_add, show nI 2 = 2 from rfl, Int32.add_sub_cancel, show k' + 2 - 2 = k' by omega]
        have R' := R (nI ((KK J fx m M).getD (k - 2) 0)) (by rw [if_neg k1, if_neg w0, if_neg k0])
        generalize nI k - 2 = z at ek
        subst ek
        refine ⟨k9, _, o2, ?_⟩
        rw [t1]
        refine ⟨rfl, nb_gd (by omega) (by decide), ?_⟩
        rw [nI_clamp (by omega : k - 2 < 2 ^ 31), p4 (k - 2) (by omega)]
        exact R'
theorem plan27 {N : Nat} {T : Nat → Nat × Nat} {r : Nat → Nat → Option Nat} {I : am_I} {L : am_J} {q : Nat} {K : am_I → Prop} (h : Inv DR N T r I L) (hq : r 0 9 = some q) (hK : ∀ J, Inv DR N T r (am_u J 0 10 1) L → K J) : w_138 q T r I K := by
  obtain ⟨hs, hd⟩ := h
  obtain ⟨q99, qN, ⟨ob, tb⟩, _⟩ := hd.2.2.2.2.2.2.2.2 q hq
  obtain ⟨m, v, hm, hv, e1, e2, e3, hpp⟩ := hs.2.1
  obtain ⟨a, M, c, d, e, t1, t2, t3, t4, t5, t6, t7, t8, t9, t10, t11, t12, t13, t14, t15⟩ := hs.2.2.2.2.1
  obtain ⟨l, l1, l2, l3, l4, l5⟩ := hs.2.2.2.1
  have law : ∃ fx, LOr (I 68) (I 1 16) fx ∧ ∀ K : Option Nat → Prop, (∀ o, (o = none ∧ fx = none) ∨ (∃ t X, o = some t ∧ fx = some X ∧ okX X ∧ ∀ G, frP q I G → LAWc T r G t X) → K o) → w_108 (I 1 16) T r I K := by
    rw [l4]
    rcases l5 with z | ⟨k, hk, z⟩
    · rw [z]
      refine ⟨none, Or.inl ⟨rfl, rfl⟩, fun K hK => ?_⟩
      unfold w_108
      rw [if_pos (show f_106 (-1) I = 0 by unfold f_106; rw [if_pos (by decide)])]
      exact hK none (Or.inl ⟨rfl, rfl⟩)
    · rw [z]
      obtain ⟨t, X, h1, h2, h3, h4⟩ := hd.2.2.1 l l1 l2 k hk
      obtain ⟨b1, b2, b3⟩ := okT_q (q := q) (hd.2.1 k t (by omega) h1).1 (Or.inl hq)
      refine ⟨some X, Or.inr ⟨k, X, rfl, by omega, rfl, h2, h4⟩, fun K hK => ?_⟩
      unfold w_108 f_106
      rw [if_neg (nI_pos (by omega)), l2, if_neg (nI_ge (by omega) (by omega)), if_neg (by decide)]
      refine ⟨nb_gd (by omega) (by decide), ?_⟩
      rw [nI_clamp (by omega), show am_rs r 11 k = some t from h1]
      refine ⟨(fun q => by cases q), fun t1 ht => ?_⟩
      rw [← Option.some.inj ht]
      exact hK (some t) (Or.inr ⟨t, X, rfl, rfl, h2, fun G hG => (LAWd_cg h3 (fun c c1 c2 => ⟨rfl, fun _ => rfl, hG c (by omega) (by omega) (by omega) (by omega)⟩)).1⟩)
  obtain ⟨fx, hL, hw⟩ := law
  refine q138 (m := m) (M := M) (fx := fx) q99 ob tb hm e1 t8 (by omega) (fun p hp => PWd_of hs e1 hm hp) hw (fun J f fq w1 w2 => hK J ?_)
  have lo : ∀ c, 1 ≤ c → c < 99 → c ≠ 24 → c ≠ 25 → c ≠ 26 → am_u J 0 10 1 c = I c := fun c c0 c1 c2 c3 c4 => by
    rw [uu_h (by omega)]
    exact f c c2 c3 c4 (by omega) (by omega) (by omega) (by omega) (by omega)
  have W := WW_cg (I := I) (J := am_u J 0 10 1) fx m M (lo 4 (by decide) (by decide) (by decide) (by decide) (by decide)) (lo 5 (by decide) (by decide) (by decide) (by decide) (by decide)) (lo 7 (by decide) (by decide) (by decide) (by decide) (by decide)) (lo 12 (by decide) (by decide) (by decide) (by decide) (by decide))
  have l1' : am_u J 0 10 1 1 = I 1 := lo 1 (by decide) (by decide) (by decide) (by decide) (by decide)
  have l12 : am_u J 0 10 1 12 = I 12 := lo 12 (by decide) (by decide) (by decide) (by decide) (by decide)
  have l68 : am_u J 0 10 1 68 = I 68 := lo 68 (by decide) (by decide) (by decide) (by decide) (by decide)
  refine ⟨StR_rot hs lo (fun k hk => ?_) (fun _ _ => rfl), DD_mv hd (Nat.le_refl _) (q := q) (fun c c1 c2 c3 => ⟨rfl, fun _ => rfl, ?_⟩) (Or.inl hq) hq q99 qN (fun _ => rfl) (fun _ _ => rfl) (by rw [l1']) l68 (lo 69 (by decide) (by decide) (by decide) (by decide) (by decide)) (lo 70 (by decide) (by decide) (by decide) (by decide) (by decide)) ⟨ob, ?_⟩ (Or.inr ⟨q99, fx, m, M, hm, by omega, by rw [l1']; exact e1, by rw [l12]; exact t8, by rw [l68, l1']; exact hL, ?_, ?_⟩)⟩
  · rw [uu_n hk, f 0 (by decide) (by decide) (by decide) (by omega) (by omega) (by omega) (by omega) (by omega)]
  · rw [uu_h (by omega)]
    exact f c (by omega) (by omega) (by omega) (by omega) (by omega) (by omega) (by omega) (by omega)
  · unfold Tb at tb ⊢
    rw [uu_h (by omega : q + 2 ≠ 0), uu_h (by omega : q + 3 ≠ 0), uu_h (by omega : q + 4 ≠ 0), uu_h (by omega : q + 5 ≠ 0), f (q + 2) (by omega) (by omega) (by omega) (by omega) (by omega) (by omega) (by omega) (by omega), f (q + 3) (by omega) (by omega) (by omega) (by omega) (by omega) (by omega) (by omega) (by omega), f (q + 4) (by omega) (by omega) (by omega) (by omega) (by omega) (by omega) (by omega) (by omega), f (q + 5) (by omega) (by omega) (by omega) (by omega) (by omega) (by omega) (by omega) (by omega)]
    exact tb
  · rw [W.1, uu_c (by omega)]
    exact w1
  · rw [W.1, W.2, uu_c (by omega)]
    intro z
    obtain ⟨z1, z2⟩ := w2 z
    refine ⟨z1, fun k hk => ?_⟩
    rw [uu_c (by omega)]
    exact z2 k hk
theorem o_27 {N : Nat} {T : Nat → Nat × Nat} {r : Nat → Nat → Option Nat} {I : am_I} {L : am_J} (h : Inv DR N T r I L) (x1 : Int32) : op_27 x1 (Inv DR) N T r I L := by
  unfold op_27 w_135
  rcases q13 x1 0 7 (by decide) (by decide) with ⟨z, _⟩ | ⟨z, k, _, hk, rfl⟩
  · have z : f_13 x1 0 7 = 0 := z
    rw [if_pos z]
    show w_271 x1 I L _
    unfold w_271
    rw [a7182, if_pos z]
    exact ⟨rfl, inv_0 DR_fr h⟩
  · have z : f_13 (nI k) 0 7 = 1 := z
    rw [if_neg (by rw [z]; decide)]
    refine ⟨fun hn => ?_, fun t ht => ?_⟩
    · have hn : r 0 9 = none := (fr09 r).symm.trans hn
      have N99 : 99 ≤ N := h.2.1
      have h0 : I 0 10 = 0 := h.2.2.2.2.2.2.2.2.1 hn
      refine ⟨N99, by rw [am_ts_hi N99, tn_e rfl], ?_⟩
      refine q136 N99 (tn_e rfl) (fun T2 r2 I2 L2 ob eT er era eI eL tj ty => ⟨fr09, ?_⟩)
      have i2 : ∀ c, c < N → I2 c = I c := fun c hc => by
        rw [eI c (by omega)]
        funext j
        rw [z_o (by omega)]
      have l2 : ∀ c, c < N → L2 c = L c := fun c hc => by
        rw [eL c (by omega)]
        funext j
        rw [z_o (by omega)]
      have r2' : ∀ c j, c < N → r2 c j = r c j := fun c j hc => by rw [er c j hc, z_o (by omega)]
      have t2' : ∀ c, c < N → T2 c = T c := fun c hc => by rw [eT c (by omega), tn_o (by omega)]
      have inv2 : Inv DR (N + 10) T2 (am_u r2 0 9 (some N)) I2 L2 := by
        refine ⟨StR_rot h.1 (fun c _ c1 _ _ _ => i2 c (by omega)) (fun k _ => by rw [i2 0 (by omega)]) (fun c hc => l2 c (by omega)), DD_mv (L := L) h.2 (by omega) (q := N) (fun c c1 c2 c3 => ⟨t2' c c2, fun j => ?_, i2 c c2⟩) (Or.inr (Nat.le_refl _)) uu_e N99 (Nat.le_refl _) (fun j => ?_) (fun k _ => ?_) (by rw [i2 1 (by omega)]) (i2 68 (by omega)) (i2 69 (by omega)) (i2 70 (by omega)) ⟨?_, tj, ty⟩ (Or.inl (by rw [i2 0 (by omega)]; exact h0))⟩
        · rw [uu_c (by omega)]; exact r2' c j c2
        · rw [uu_c (by omega)]; exact r2' 11 j (by omega)
        · rw [uu_c (by omega)]; exact r2' 13 k (by omega)
        · have rs : ∀ j, am_rs (am_u r2 0 9 (some N)) N j = am_rs r2 N j := fun j => am_rs_ap (uu_c (by omega))
          unfold OB at ob ⊢
          rw [rs, rs, rs, rs, rs, rs, rs, rs]
          exact ob
      rw [i2 0 (by omega), h0]
      refine am_ifp rfl ⟨fun e => ?_, fun t ht => ?_⟩
      · have e : am_u r2 0 9 (some N) 0 9 = none := (fr09 _).symm.trans e
        rw [uu_e] at e
        exact absurd e (by simp)
      · have e : am_u r2 0 9 (some N) 0 9 = some t := (fr09 _).symm.trans ht
        rw [uu_e] at e
        have e := Option.some.inj e
        subst e
        refine ⟨ob.1, plan27 inv2 uu_e (fun J hJ => ?_)⟩
        exact fin27 hJ uu_e (by rw [uu_e]; decide) hk
    · have hq : r 0 9 = some t := (fr09 r).symm.trans ht
      obtain ⟨q99, qN, ⟨ob, tb⟩, pl⟩ := h.2.2.2.2.2.2.2.2.2 t hq
      unfold wb_135_30
      by_cases h0 : I 0 10 = 0
      · refine am_ifp h0 ⟨fun e => by rw [ht] at e; exact absurd e (by simp), fun t' ht' => ?_⟩
        have e : t = t' := Option.some.inj (ht.symm.trans ht')
        subst e
        refine ⟨ob.1, plan27 h hq (fun J hJ => ?_)⟩
        exact fin27 hJ hq (by rw [uu_e]; decide) hk
      · exact am_ifn h0 (fin27 h hq h0 hk)
