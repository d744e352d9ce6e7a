/-! orders: one time of one clause, on both sides -/
def frU (I J : am_I) : Prop := (∀ c, ¬ (1 ≤ c ∧ c ≤ 12) → ¬ (24 ≤ c ∧ c ≤ 26) → ¬ (29 ≤ c ∧ c ≤ 35) → c ≠ 54 → J c = I c) ∧ ∀ i, i ≠ 0 → i ≠ 2 → J 35 i = I 35 i
theorem frU_r {I : am_I} : frU I I := ⟨fun _ _ _ _ _ => rfl, fun _ _ _ => rfl⟩
theorem frU_t {I J W : am_I} (a : frU I J) (b : frU J W) : frU I W := ⟨fun c h1 h2 h3 h4 => (b.1 c h1 h2 h3 h4).trans (a.1 c h1 h2 h3 h4), fun i h1 h2 => (b.2 i h1 h2).trans (a.2 i h1 h2)⟩
theorem frU_24 {I J : am_I} (j : ∀ c, c ≠ 24 → c ≠ 25 → c ≠ 26 → c ≠ 54 → J c = I c) : frU I J := ⟨fun c _ h2 _ h4 => j c (by omega) (by omega) (by omega) h4, fun i _ _ => by rw [j 35 (by decide) (by decide) (by decide) (by decide)]⟩
def fqW (G F : am_I) (H H' : am_J) : Prop := (∀ c, c ≠ 66 → c ≠ 68 → c ≠ 71 → c ≠ 72 → F c = G c) ∧ (∀ k, k ≠ 8 → k ≠ 20 → k ≠ 38 → k ≠ 54 → k ≠ 55 → k ≠ 57 → F 66 k = G 66 k) ∧ (G 66 20 = 0 → F 66 20 = 0) ∧ (∀ k, 336 ≤ k → F 71 k = G 71 k) ∧ (∀ i, (i < 5 ∨ 26 ≤ i) → F 68 i = G 68 i) ∧ ∀ c, c ≠ 66 → c ≠ 85 → c ≠ 86 → H' c = H c
theorem fqW_r {G : am_I} {H : am_J} : fqW G G H H := ⟨fun _ _ _ _ _ => rfl, fun _ _ _ _ _ _ _ => rfl, fun z => z, fun _ _ => rfl, fun _ _ => rfl, fun _ _ _ _ => rfl⟩
theorem fqW_t {G F F2 : am_I} {H H' H2 : am_J} (a : fqW G F H H') (b : fqW F F2 H' H2) : fqW G F2 H H2 := ⟨fun c h1 h2 h3 h4 => (b.1 c h1 h2 h3 h4).trans (a.1 c h1 h2 h3 h4), fun k h1 h2 h3 h4 h5 h6 => (b.2.1 k h1 h2 h3 h4 h5 h6).trans (a.2.1 k h1 h2 h3 h4 h5 h6), fun z => b.2.2.1 (a.2.2.1 z), fun k h1 => (b.2.2.2.1 k h1).trans (a.2.2.2.1 k h1), fun i h1 => (b.2.2.2.2.1 i h1).trans (a.2.2.2.2.1 i h1), fun c h1 h2 h3 => (b.2.2.2.2.2 c h1 h2 h3).trans (a.2.2.2.2.2 c h1 h2 h3)⟩
theorem fqW_f {G F : am_I} {H H' : am_J} (h : fror G F H H') : fqW G F H H' := ⟨fun c c1 _ _ _ => h.1 c c1, fun k _ k2 k3 _ _ k6 => h.2.1 k k2 k3 k6, h.2.2.1, fun k _ => by rw [h.1 71 (by decide)], fun i _ => by rw [h.1 68 (by decide)], h.2.2.2⟩
theorem CNv_cg {I J V : am_I} {u : Nat} (h : CNv I V u) (e : ∀ c, (1 ≤ c ∧ c ≤ 12) ∨ (29 ≤ c ∧ c ≤ 34) → J c = I c) : CNv J V u := by
  refine ⟨fun c c1 c2 => by rw [e c (Or.inl ⟨c1, c2⟩)]; exact h.1 c c1 c2, by rw [e 29 (by omega)]; exact h.2.1, h.2.2.1, fun j hj => ?_⟩
  rw [e 30 (by omega), e 31 (by omega), e 32 (by omega), e 33 (by omega), e 34 (by omega)]
  exact h.2.2.2 j hj
theorem RNv_cg {G F V : am_I} {u : Nat} (h : RNv G V u) (e68 : F 68 = G 68) (e8 : F 66 8 = G 66 8) (e71 : F 71 = G 71) (e72 : F 72 = G 72) : RNv F V u := by
  unfold RNv
  rw [e68, e8, e71, e72]
  exact h
theorem DC_o {l : List CLD} {s : Nat} {M : Nat → Nat × Nat} {mk : Nat → Nat → Nat} {I J : am_I} (h : DC l s M mk I) (f : frU I J) : DC l s M mk J := DC_cg h (fun c c1 c2 => f.1 c (by omega) (by omega) (by omega) (by omega))
theorem DQ_o {l : List CLD} {s : Nat} {M : Nat → Nat × Nat} {mk : Nat → Nat → Nat} {G F : am_I} {H H' : am_J} (h : DQ l s M mk G) (f : fqW G F H H') : DQ l s M mk F := DQ_cg h (f.1 77 (by decide) (by decide) (by decide) (by decide)) (f.1 78 (by decide) (by decide) (by decide) (by decide)) (f.1 97 (by decide) (by decide) (by decide) (by decide))
/-- by the class: from V to V' if it is good -/
def ONC (V V' : am_I) (u u' dn dn' : Nat) (fd fd' : Int32) (good : Prop) (c : Nat) (cl : CLD) : Prop := ∀ (T : Nat → Nat × Nat) (r : Nat → Nat → Option Nat) (l : List CLD) (s : Nat) (M : Nat → Nat × Nat) (mk : Nat → Nat → Nat) (I : am_I) (E F : am_I → Prop), CNv I V u → I 35 0 = nI dn → I 35 2 = fd → DC l s M mk I → l[c]? = some cl → (good → ∀ J, CNv J V' u' → J 35 0 = nI dn' → J 35 2 = fd' → frU I J → E J) → (¬ good → ∀ J, frU I J → F J) → w_85 T r I (fun I3 => w_87 16 (nI c) 3 T r I3 (fun q4 I5 => if q4 = 0 then E I5 else if I5 24 1 = 1 then w_92 (nI c) T r I5 (fun q6 I7 => if q6 = 0 then F I7 else w_93 (nI cl.1) T r I7 (fun q8 I9 => if q8 = 0 then F I9 else E (am_u I9 35 0 ((I9 35 0) + 1)))) else E I5))
/-- and by the reference -/
def ONR (V V' : am_I) (u u' dn dn' : Nat) (fd fd' : Int32) (good : Prop) (c : Nat) (cl : CLD) : Prop := ∀ (l : List CLD) (s : Nat) (M : Nat → Nat × Nat) (mk : Nat → Nat → Nat) (G : am_I) (H : am_J) (K : Int32 → am_I → am_J → Prop), RNv G V u → G 66 54 = nI dn → G 66 55 = fd → DQ l s M mk G → l[c]? = some cl → (good → ∀ F H', RNv F V' u' → F 66 54 = nI dn' → F 66 55 = fd' → fqW G F H H' → K 0 F H') → (¬ good → ∀ F H', fqW G F H H' → K (-3) F H') → w_295 (nI (10 * c)) G H K
/-- the test doesn't hold -/
theorem one_0 {V : am_I} {u m dn c : Nat} {fd : Int32} {cl : CLD} (h : IV V) (em : V 1 10 = nI m) (hm : m ≤ 8) (hd : dn ≤ 240) (hf : FDk fd) (ok : okO cl) (tg : ¬ oTg cl (wdE V m dn fd)) : ONC V V u u dn dn fd fd True c cl ∧ ONR V V u u dn dn fd fd True c cl := by
  refine ⟨fun T r l s M mk I E F cn e0 e2 dc hc kG kB => ?_, fun l s M mk G H K rn e54 e55 dq hc kG kB => ?_⟩
  · refine cT h em hm cn hd hf e0 e2 dc hc ok (fun _ J j => ?_) (fun z => absurd z tg)
    exact kG trivial J (CNv_cg cn (fun c hc => j c (by omega) (by omega) (by omega))) (by rw [j 35 (by decide) (by decide) (by decide)]; exact e0) (by rw [j 35 (by decide) (by decide) (by decide)]; exact e2) (frU_24 (fun c c1 c2 c3 _ => j c c1 c2 c3))
  · refine rTs h em hm rn hd hf e54 e55 dq hc ok (fun _ F H' fr => ?_) (fun z => absurd z tg)
    exact kG trivial F H' (RNv_cg rn (fr.1 68 (by decide)) (fr.2.1 8 (by decide) (by decide) (by decide)) (fr.1 71 (by decide)) (fr.1 72 (by decide))) (by rw [fr.2.1 54 (by decide) (by decide) (by decide)]; exact e54) (by rw [fr.2.1 55 (by decide) (by decide) (by decide)]; exact e55) (fqW_f fr)
theorem rn_m {V G : am_I} {u m : Nat} (h : IV V) (em : V 1 10 = nI m) (rn : RNv G V u) : G 68 1 = nI m := by
  obtain ⟨L, h⟩ := h
  obtain ⟨m', v, hm', hv, e1', e2', e3, hp⟩ := id h.1.2.1
  rw [rn.1, e2', ← e1', em]
/-- the test holds, a sum can't be reckoned -/
theorem one_F {V : am_I} {u m dn c : Nat} {fd : Int32} {cl : CLD} (h : IV V) (em : V 1 10 = nI m) (hm : m ≤ 8) (hd : dn ≤ 240) (hf : FDk fd) (ok : okO cl) (tg : oTg cl (wdE V m dn fd)) (fl : ∃ (i : Nat) (f : FN), cl.2.2.1[i]? = some f ∧ f (wdE V m dn fd) = none) : ONC V V u u dn dn fd fd False c cl ∧ ONR V V u u dn dn fd fd False c cl := by
  refine ⟨fun T r l s M mk I E F cn e0 e2 dc hc kG kB => ?_, fun l s M mk G H K rn e54 e55 dq hc kG kB => ?_⟩
  · refine cT h em hm cn hd hf e0 e2 dc hc ok (fun z => absurd tg z) (fun _ J1 j1 w1 => ?_)
    have d1 : DC l s M mk J1 := DC_cg dc (fun c c1 c2 => j1 c (by omega) (by omega) (by omega))
    refine cSm hm (by rw [j1 1 (by decide) (by decide) (by decide), cn.1 1 (by decide) (by decide)]; exact em) d1 w1 hc ok (fun _ J2 j2 => ?_) (fun J2 j2 al => ?_)
    · exact am_ifp rfl (kB (fun z => z) J2 (frU_24 (fun c c1 c2 c3 c4 => (j2 c c1 c3 c4).trans (j1 c c1 c2 c3))))
    · obtain ⟨i, f, ef, fn⟩ := fl
      obtain ⟨v, fv, _⟩ := al i f ef
      rw [fn] at fv
      cases fv
  · refine rTs h em hm rn hd hf e54 e55 dq hc ok (fun z => absurd tg z) (fun _ F1 H1 fr z w1 => ?_)
    have k3 : cl.2.2.1.length ≤ 3 := by
      have k2 := ok.2.1
      by_cases z0 : cl.1 = 0
      · rw [if_pos z0] at k2
        omega
      · rw [if_neg z0] at k2
        by_cases z1 : cl.1 = 1
        · rw [if_pos z1] at k2
          omega
        · rw [if_neg z1] at k2
          omega
    refine rSm hm (by rw [fr.1 68 (by decide)]; exact rn_m h em rn) (DQ_q dq fr) w1 hc z (fun _ F2 H2 fr2 => ?_) (fun y0 y1 y2 s0 s1 s2 F2 H2 fr2 => ?_)
    · exact kB (fun z => z) F2 H2 (fqW_f (fror_t fr fr2))
    · obtain ⟨i, f, ef, fn⟩ := fl
      have il := gixl ef
      have no : ∀ y, SVx cl (wdE V m dn fd) i y → False := fun y s => by
        rcases s with ⟨g, v, eg, gv, _⟩ | ⟨le, _⟩
        · rw [ef] at eg
          injection eg with eg
          rw [← eg, fn] at gv
          cases gv
        · omega
      rcases (by omega : i = 0 ∨ i = 1 ∨ i = 2) with e | e | e
      · rw [e] at no
        exact (no _ s0).elim
      · rw [e] at no
        exact (no _ s1).elim
      · rw [e] at no
        exact (no _ s2).elim
def gq (kd : Nat) (q : Int32) (I : am_I) : am_I := if kd = 2 then am_u I 35 2 q else I
theorem gq_o {kd c : Nat} {q : Int32} {I : am_I} (h : c ≠ 35) : gq kd q I c = I c := by
  unfold gq
  by_cases k : kd = 2
  · rw [if_pos k, uu_h h]
  · rw [if_neg k]
theorem gq_n {kd i : Nat} {q : Int32} {I : am_I} (h : i ≠ 2) : gq kd q I 35 i = I 35 i := by
  unfold gq
  by_cases k : kd = 2
  · rw [if_pos k, uu_n h]
  · rw [if_neg k]
theorem gq_2 {kd : Nat} {q : Int32} {I : am_I} : gq kd q I 35 2 = if kd = 2 then q else I 35 2 := by
  unfold gq
  by_cases k : kd = 2
  · rw [if_pos k, if_pos k, uu_e]
  · rw [if_neg k, if_neg k]
theorem gq_f {kd : Nat} {q : Int32} {I : am_I} : frU I (gq kd q I) := ⟨fun c _ _ c3 _ => gq_o (by omega), fun i _ i2 => gq_n i2⟩
/-- the test holds, the sums are reckoned, the act is tried -/
theorem one_A {V V' : am_I} {u u' m dn c : Nat} {fd q : Int32} {cl : CLD} {wC : (Nat → Nat × Nat) → (Nat → Nat → Option Nat) → am_I → (Int32 → am_I → Prop) → Prop} {wR : am_I → (Int32 → am_I → Prop) → Prop} (h : IV V) (em : V 1 10 = nI m) (hm : m ≤ 8) (hd : dn ≤ 240) (hf : FDk fd) (ok : okO cl) (tg : oTg cl (wdE V m dn fd)) (nf : ¬ ∃ (i : Nat) (f : FN), cl.2.2.1[i]? = some f ∧ f (wdE V m dn fd) = none) (a : ACT V V' u u' q wC wR) (hq : q = -2 ∨ q = -3 ∨ 0 ≤ q) (hC : ∀ (T : Nat → Nat × Nat) (r : Nat → Nat → Option Nat) (J : am_I) (K : Int32 → am_I → Prop), (∀ (i : Nat) (f : FN), cl.2.2.1[i]? = some f → ∃ v, f (wdE V m dn fd) = some v ∧ J 54 i = Int32.ofInt v) → wC T r J (fun q' I => if q' < 0 then K 0 (gq cl.1 q' I) else K 1 (gq cl.1 q' I)) → w_93 (nI cl.1) T r J K) (hR : ∀ (y0 y1 y2 : Int32) (F : am_I) (H : am_J) (K : Int32 → am_I → am_J → Prop), SVx cl (wdE V m dn fd) 0 y0 → SVx cl (wdE V m dn fd) 1 y1 → SVx cl (wdE V m dn fd) 2 y2 → wR F (fun q' I => wb_295_198 (nI cl.1) q' I H K) → RAq (nI cl.1) y0 y1 y2 F H K) : ONC V V' u u' dn (dn + 1) fd (if cl.1 = 2 then q else fd) (0 ≤ q) c cl ∧ ONR V V' u u' dn (dn + 1) fd (if cl.1 = 2 then q else fd) (0 ≤ q) c cl := by
  have hq' : ¬ (0 : Int32) ≤ q → q < 0 := fun z => by
    rcases hq with e | e | e
    · rw [e]; decide
    · rw [e]; decide
    · exact absurd e z
  have hq2 : (0 : Int32) ≤ q → ¬ q < 0 := fun z => Int32.not_lt.mpr z
  refine ⟨fun T r l s M mk I E F cn e0 e2 dc hc kG kB => ?_, fun l s M mk G H K rn e54 e55 dq hc kG kB => ?_⟩
  · refine cT h em hm cn hd hf e0 e2 dc hc ok (fun z => absurd tg z) (fun _ J1 j1 w1 => ?_)
    have d1 : DC l s M mk J1 := DC_cg dc (fun c c1 c2 => j1 c (by omega) (by omega) (by omega))
    refine cSm hm (by rw [j1 1 (by decide) (by decide) (by decide), cn.1 1 (by decide) (by decide)]; exact em) d1 w1 hc ok (fun z => absurd z nf) (fun J2 j2 al => ?_)
    have j3 : ∀ c, c ≠ 24 → c ≠ 25 → c ≠ 26 → c ≠ 54 → J2 c = I c := fun c c1 c2 c3 c4 => (j2 c c1 c3 c4).trans (j1 c c1 c2 c3)
    refine am_ifn (by decide) (hC T r J2 _ al (a.2.1 T r J2 _ (CNv_cg cn (fun c hc => j3 c (by omega) (by omega) (by omega) (by omega))) (fun J cnJ fr => ?_)))
    have fU : frU I J := frU_t (frU_24 j3) ⟨fun c c1 c2 c3 c4 => fr c c1 (by omega), fun i _ _ => by rw [fr 35 (by omega) (by omega)]⟩
    by_cases z : (0 : Int32) ≤ q
    · have k : E (am_u (gq cl.1 q J) 35 0 (gq cl.1 q J 35 0 + 1)) := by
        refine kG z _ (CNv_cg cnJ (fun c hc => ?_)) ?_ ?_ (frU_t fU (frU_t gq_f ⟨fun c _ _ c3 _ => uu_h (by omega), fun i i0 _ => uu_n i0⟩))
        · rw [uu_h (by omega), gq_o (by omega)]
        · rw [uu_e, gq_n (by decide), fr 35 (by omega) (by omega), j3 35 (by decide) (by decide) (by decide) (by decide), e0, nI_succ]
        · rw [uu_n (by decide), gq_2, fr 35 (by omega) (by omega), j3 35 (by decide) (by decide) (by decide) (by decide), e2]
      exact am_ifn (hq2 z) (am_ifn (by decide) k)
    · exact am_ifp (hq' z) (am_ifp rfl (kB z _ (frU_t fU gq_f)))
  · refine rTs h em hm rn hd hf e54 e55 dq hc ok (fun z => absurd tg z) (fun _ F1 H1 fr y w1 => ?_)
    refine rSm hm (by rw [fr.1 68 (by decide)]; exact rn_m h em rn) (DQ_q dq fr) w1 hc y (fun z => absurd z nf) (fun y0 y1 y2 s0 s1 s2 F2 H2 fr2 => ?_)
    have f3 := fror_t fr fr2
    have rn3 : RNv F2 V u := RNv_cg rn (f3.1 68 (by decide)) (f3.2.1 8 (by decide) (by decide) (by decide)) (f3.1 71 (by decide)) (f3.1 72 (by decide))
    refine hR y0 y1 y2 F2 H2 K s0 s1 s2 (a.2.2 F2 _ rn3 (fun F rnF g1 g2 g3 => ?_))
    have fW : fqW F2 F H2 H2 := ⟨g1, fun k k8 _ _ _ _ _ => g2 k k8, fun z => by rw [g2 20 (by decide)]; exact z, g3, fun i hi => by rw [rnF.1, rn3.1]; exact a.1.1 i hi, fun _ _ _ _ => rfl⟩
    have fV : fqW G F H H2 := fqW_t (fqW_f f3) fW
    unfold wb_295_198
    by_cases z : (0 : Int32) ≤ q
    · refine am_ifp z ?_
      have k : ∀ x, x = (if cl.1 = 2 then q else fd) → K 0 (am_u (am_u F 66 55 x) 66 54 (F 66 54 + 1)) H2 := by
        intro x ex
        refine kG z _ H2 (RNv_cg rnF (by rw [uu_h (by decide), uu_h (by decide)]) (by rw [uu_n (by decide), uu_n (by decide)]) (by rw [uu_h (by decide), uu_h (by decide)]) (by rw [uu_h (by decide), uu_h (by decide)])) ?_ ?_ (fqW_t fV ⟨fun c c1 _ _ _ => by rw [uu_h c1, uu_h c1], fun k _ _ _ k4 k5 _ => by rw [uu_n k4, uu_n k5], fun z => by rw [uu_n (by decide), uu_n (by decide)]; exact z, fun k _ => by rw [uu_c (by decide), uu_c (by decide)], fun i _ => by rw [uu_c (by decide), uu_c (by decide)], fun _ _ _ _ => rfl⟩)
        · rw [uu_e, g2 54 (by decide), f3.2.1 54 (by decide) (by decide) (by decide), e54, nI_succ]
        · rw [uu_n (by decide), uu_e]; exact ex
      by_cases d : cl.1 = 2
      · refine am_ifp (by rw [d]; rfl) (k q (by rw [if_pos d]))
      · refine am_ifn (fun w => d ((nb_inj (b := 2) (by have := ok.1; omega) (by decide)).mp w)) (k _ ?_)
        rw [if_neg d, g2 55 (by decide), f3.2.1 55 (by decide) (by decide) (by decide)]
        exact e55
    · exact am_ifn z (kB z F H2 fV)
theorem SVx_v {cl : CLD} {e : Nat → Nat → Int} {j : Nat} {y : Int32} {f : FN} {v : Int} (s : SVx cl e j y) (ef : cl.2.2.1[j]? = some f) (fv : f e = some v) : y = Int32.ofInt v := by
  rcases s with ⟨g, w, eg, gw, ey⟩ | ⟨le, _⟩
  · rw [ef] at eg
    injection eg with eg
    rw [← eg, fv] at gw
    injection gw with gw
    rw [ey, gw]
  · have := gixl ef
    omega
theorem al_v {cl : CLD} {e : Nat → Nat → Int} {J : am_I} (al : ∀ (i : Nat) (f : FN), cl.2.2.1[i]? = some f → ∃ v, f e = some v ∧ J 54 i = Int32.ofInt v) {j : Nat} {f : FN} {v : Int} (ef : cl.2.2.1[j]? = some f) (fv : f e = some v) : J 54 j = Int32.ofInt v := by
  obtain ⟨w, gw, ey⟩ := al j f ef
  rw [fv] at gw
  injection gw with gw
  rw [ey, gw]
theorem nf_v {cl : CLD} {e : Nat → Nat → Int} (nf : ¬ ∃ (i : Nat) (f : FN), cl.2.2.1[i]? = some f ∧ f e = none) {i : Nat} (hi : i < cl.2.2.1.length) : ∃ (f : FN) (v : Int), cl.2.2.1[i]? = some f ∧ f e = some v := by
  obtain ⟨f, ef⟩ : ∃ f, cl.2.2.1[i]? = some f := ⟨_, List.getElem?_eq_getElem hi⟩
  cases hv : f e with
  | none => exact absurd ⟨i, f, ef, hv⟩ nf
  | some v => exact ⟨f, v, ef, hv⟩
theorem one {V : am_I} {u dn c : Nat} {fd : Int32} {cl : CLD} (h : IV V) (hu : V 29 0 = nI u) (hu6 : u ≤ 16) (hd : dn ≤ 240) (hf : FDk fd) (ok : okO cl) : ∃ (V' : am_I) (u' dn' : Nat) (fd' : Int32) (good : Prop), u' ≤ 16 ∧ IV V' ∧ V' 29 0 = nI u' ∧ VF V V' ∧ dn' ≤ dn + 1 ∧ (good → FDk fd') ∧ ONC V V' u u' dn dn' fd fd' good c cl ∧ ONR V V' u u' dn dn' fd fd' good c cl := by
  have hh := h
  obtain ⟨L, h0⟩ := hh
  obtain ⟨m, v, hm, hv, em, e2, e3, hp⟩ := id h0.1.2.1
  by_cases tg : oTg cl (wdE V m dn fd)
  · by_cases fl : ∃ (i : Nat) (f : FN), cl.2.2.1[i]? = some f ∧ f (wdE V m dn fd) = none
    · exact ⟨V, u, dn, fd, False, hu6, h, hu, VF_r, by omega, fun z => z.elim, one_F h em hm hd hf ok tg fl⟩
    · obtain ⟨k1, k2, k3⟩ := id ok
      rcases (by omega : cl.1 = 0 ∨ cl.1 = 1 ∨ cl.1 = 2 ∨ cl.1 = 3) with z | z | z | z
      · rw [z] at k2
        have k2 : cl.2.2.1.length = 2 := k2
        obtain ⟨f0, v0, ef0, fv0⟩ := nf_v (i := 0) fl (by omega)
        obtain ⟨f1, v1, ef1, fv1⟩ := nf_v (i := 1) fl (by omega)
        obtain ⟨V', u', q, a1, a2, a3, a4, a5⟩ := act0 h hu hu6 (Int32.ofInt v0) (Int32.ofInt v1)
        refine ⟨V', u', dn + 1, _, _, a1, a2, a4, a5.1, Nat.le_refl _, ?_, one_A h em hm hd hf ok tg fl a5 a3 (fun T r J K al hw => ?_) (fun y0 y1 y2 F H K s0 s1 s2 hw => ?_)⟩
        · rw [z]
          exact fun _ => hf
        · rw [z] at hw ⊢
          unfold w_93
          rw [al_v al ef0 fv0, al_v al ef1 fv1]
          exact am_ifp rfl hw
        · rw [z] at hw ⊢
          unfold RAq
          rw [SVx_v s0 ef0 fv0, SVx_v s1 ef1 fv1]
          exact am_ifp rfl hw
      · rw [z] at k2
        have k2 : cl.2.2.1.length = 3 := k2
        obtain ⟨f0, v0, ef0, fv0⟩ := nf_v (i := 0) fl (by omega)
        obtain ⟨f1, v1, ef1, fv1⟩ := nf_v (i := 1) fl (by omega)
        obtain ⟨f2, v2, ef2, fv2⟩ := nf_v (i := 2) fl (by omega)
        obtain ⟨V', u', q, a1, a2, a3, a4, a5⟩ := act1 h hu hu6 (Int32.ofInt v0) (Int32.ofInt v1) (Int32.ofInt v2)
        refine ⟨V', u', dn + 1, _, _, a1, a2, a4, a5.1, Nat.le_refl _, ?_, one_A h em hm hd hf ok tg fl a5 a3 (fun T r J K al hw => ?_) (fun y0 y1 y2 F H K s0 s1 s2 hw => ?_)⟩
        · rw [z]
          exact fun _ => hf
        · rw [z] at hw ⊢
          unfold w_93
          rw [al_v al ef0 fv0, al_v al ef1 fv1, al_v al ef2 fv2]
          exact am_ifn (by decide) (am_ifp rfl hw)
        · rw [z] at hw ⊢
          unfold RAq
          rw [SVx_v s0 ef0 fv0, SVx_v s1 ef1 fv1, SVx_v s2 ef2 fv2]
          exact am_ifn (by decide) (am_ifp rfl hw)
      · obtain ⟨V', u', q, a1, a2, a3, a4, a5⟩ := act2 h hu hu6
        have a3' : q = -2 ∨ q = -3 ∨ 0 ≤ q := by
          rcases a3 with e | ⟨n, hn, e⟩
          · exact Or.inr (Or.inl e)
          · exact Or.inr (Or.inr (by rw [e]; exact nI_pos' (by omega)))
        refine ⟨V', u', dn + 1, _, _, a1, a2, a4, a5.1, Nat.le_refl _, ?_, one_A h em hm hd hf ok tg fl a5 a3' (fun T r J K al hw => ?_) (fun y0 y1 y2 F H K s0 s1 s2 hw => ?_)⟩
        · rw [z]
          intro y
          rcases a3 with e | ⟨n, hn, e⟩
          · rw [e] at y
            exact absurd y (by decide)
          · exact Or.inr ⟨n, hn, e⟩
        · rw [z] at hw ⊢
          unfold w_93
          exact am_ifn (by decide) (am_ifn (by decide) (am_ifp rfl hw))
        · rw [z] at hw ⊢
          unfold RAq
          exact am_ifn (by decide) (am_ifn (by decide) (am_ifp rfl hw))
      · obtain ⟨V', u', q, a1, a2, a3, a4, a5⟩ := act3 h hu hu6
        refine ⟨V', u', dn + 1, _, _, a1, a2, a4, a5.1, Nat.le_refl _, ?_, one_A h em hm hd hf ok tg fl a5 (Or.inr a3) (fun T r J K al hw => ?_) (fun y0 y1 y2 F H K s0 s1 s2 hw => ?_)⟩
        · rw [z]
          exact fun _ => hf
        · rw [z] at hw ⊢
          unfold w_93
          exact am_ifn (by decide) (am_ifn (by decide) (am_ifn (by decide) hw))
        · rw [z] at hw ⊢
          unfold RAq
          exact am_ifn (by decide) (am_ifn (by decide) (am_ifn (by decide) hw))
  · exact ⟨V, u, dn, fd, True, hu6, h, hu, VF_r, by omega, fun _ => hf, one_0 h em hm hd hf ok tg⟩
