/-! orders: one time of one clause, by the reference: the test, the sums -/
def fror (G F : am_I) (H H' : am_J) : Prop := (∀ c, c ≠ 66 → F c = G c) ∧ (∀ k, k ≠ 20 → k ≠ 38 → k ≠ 57 → F 66 k = G 66 k) ∧ (G 66 20 = 0 → F 66 20 = 0) ∧ ∀ c, c ≠ 66 → c ≠ 85 → c ≠ 86 → H' c = H c
theorem fror_t {G F F2 : am_I} {H H' H2 : am_J} (a : fror G F H H') (b : fror F F2 H' H2) : fror G F2 H H2 := ⟨fun c hc => (b.1 c hc).trans (a.1 c hc), fun k k1 k2 k3 => (b.2.1 k k1 k2 k3).trans (a.2.1 k k1 k2 k3), fun z => b.2.2.1 (a.2.2.1 z), fun c c1 c2 c3 => (b.2.2.2 c c1 c2 c3).trans (a.2.2.2 c c1 c2 c3)⟩
theorem fror_r {G : am_I} {H : am_J} : fror G G H H := ⟨fun _ _ => rfl, fun _ _ _ _ => rfl, fun z => z, fun _ _ _ _ => rfl⟩
theorem fror_G {G F : am_I} {H H' : am_J} (h : frG G F H H') : fror G F H H' ∧ H' 85 = H 85 := ⟨⟨h.1, h.2.1, fun _ => h.2.2.1, fun c c1 _ c3 => h.2.2.2.1 c c1 c3⟩, h.2.2.2.1 85 (by decide) (by decide)⟩
theorem DQ_q {l : List CLD} {s : Nat} {M : Nat → Nat × Nat} {mk : Nat → Nat → Nat} {G F : am_I} {H H' : am_J} (h : DQ l s M mk G) (f : fror G F H H') : DQ l s M mk F := DQ_cg h (f.1 77 (by decide)) (f.1 78 (by decide)) (f.1 97 (by decide))
def SVx (cl : CLD) (e : Nat → Nat → Int) (j : Nat) (x : Int32) : Prop := (∃ (f : FN) (v : Int), cl.2.2.1[j]? = some f ∧ f e = some v ∧ x = Int32.ofInt v) ∨ (cl.2.2.1.length ≤ j ∧ x = -1)
theorem rS1 {l : List CLD} {s c m j : Nat} {M : Nat → Nat × Nat} {mk : Nat → Nat → Nat} {G : am_I} {H : am_J} {cl : CLD} {e : Nat → Nat → Int} {K : Int32 → am_I → am_J → Prop} {x : Int32} (ex : x = nI (10 * c + 1 + 2 * j)) (hj : j < 3) (hm : m ≤ 8) (em : G 68 1 = nI m) (dq : DQ l s M mk G) (w : WDr e m G H) (hc : l[c]? = some cl) (e57 : G 66 57 = 0) (kF : (∃ (i : Nat) (f : FN), cl.2.2.1[i]? = some f ∧ f e = none) → ∀ v F H', fror G F H H' → F 66 57 = 1 → K v F H') (kO : ∀ y, SVx cl e j y → ∀ F H', fror G F H H' → F 66 57 = 0 → WDr e m F H' → K y F H') : w_296 x G H K := by
  have cc := gixl hc
  obtain ⟨s4, l12, cd, t1, t2⟩ := id dq
  obtain ⟨⟨r1, r2, r3, r4, r5, r6, r7, r8⟩, b5, pz'⟩ := t1 c cl hc
  have l3 := pz'.1
  by_cases jl : j < cl.2.2.1.length
  · obtain ⟨f, ef⟩ : ∃ f, cl.2.2.1[j]? = some f := ⟨_, List.getElem?_eq_getElem jl⟩
    refine w296o (p := 10 * c + 1 + 2 * j) (f := f) (a := mk c j) (b := mk c (j + 1)) ex (by omega) hm em dq w e57 ((r6 j hj).1 jl).1 ?_ (b5 (j + 1) (by omega)) (pz'.2.1 j f ef) (fun fn v F H' fg z => ?_) (fun v fv F H' fg z => ?_)
    · rw [show 10 * c + 1 + 2 * j + 1 = 10 * c + 2 + 2 * j by omega]
      exact ((r6 j hj).1 jl).2
    · exact kF ⟨j, f, ef, fn⟩ v F H' (fror_G fg).1 z
    · exact kO _ (Or.inl ⟨f, v, ef, fv, rfl⟩) F H' (fror_G fg).1 z (WDr_cg w (fg.1 68 (by decide)) (fror_G fg).2)
  · refine w296n (p := 10 * c + 1 + 2 * j) ex (by omega) e57 ?_ (kO (-1) (Or.inr ⟨by omega, rfl⟩) G H fror_r e57 w)
    rw [show 10 * c + 1 + 2 * j + 1 = 10 * c + 2 + 2 * j by omega]
    exact (r6 j hj).2 (by omega)
def RAq (kd q3 q6 q9 : Int32) (I10 : am_I) (L11 : am_J) (K : Int32 → am_I → am_J → Prop) : Prop := if kd = 0 then w_252 q3 q6 I10 (fun q18 I19 => wb_295_198 kd q18 I19 L11 K) else if kd = 1 then w_259 q3 q6 q9 I10 (fun q16 I17 => wb_295_198 kd q16 I17 L11 K) else if kd = 2 then w_261 I10 (fun q14 I15 => wb_295_198 kd q14 I15 L11 K) else w_265 I10 (fun q12 I13 => wb_295_198 kd q12 I13 L11 K)
theorem rSm {l : List CLD} {s c m : Nat} {M : Nat → Nat × Nat} {mk : Nat → Nat → Nat} {G : am_I} {H : am_J} {cl : CLD} {e : Nat → Nat → Int} {K : Int32 → am_I → am_J → Prop} (hm : m ≤ 8) (em : G 68 1 = nI m) (dq : DQ l s M mk G) (w : WDr e m G H) (hc : l[c]? = some cl) (e57 : G 66 57 = 0) (kF : (∃ (i : Nat) (f : FN), cl.2.2.1[i]? = some f ∧ f e = none) → ∀ F H', fror G F H H' → K (-3) F H') (kO : ∀ y0 y1 y2, SVx cl e 0 y0 → SVx cl e 1 y1 → SVx cl e 2 y2 → ∀ F H', fror G F H H' → RAq (nI cl.1) y0 y1 y2 F H' K) : wb_295_107 (nI (10 * c)) G H K := by
  have cc := gixl hc
  have l12 := dq.2.1
  have a1 : nI (10 * c) + 1 = nI (10 * c + 1 + 2 * 0) := by rw [show (1 : Int32) = nI 1 from rfl, nb_add]
  have a3 : nI (10 * c) + 3 = nI (10 * c + 1 + 2 * 1) := by rw [show (3 : Int32) = nI 3 from rfl, nb_add]
  have a5 : nI (10 * c) + 5 = nI (10 * c + 1 + 2 * 2) := by rw [show (5 : Int32) = nI 5 from rfl, nb_add]
  unfold wb_295_107
  refine rS1 (j := 0) a1 (by decide) hm em dq w hc e57 (fun ff v F H' fr z => ?_) (fun y0 s0 F0 H0 f0 z0 w0 => ?_)
  · refine w296b z (w296b z (am_ifn (by rw [z]; decide) (kF ff F H' fr)))
  refine rS1 (j := 1) a3 (by decide) hm (by rw [f0.1 68 (by decide)]; exact em) (DQ_q dq f0) w0 hc z0 (fun ff v F H' fr z => ?_) (fun y1 s1 F1 H1 f1 z1 w1 => ?_)
  · refine w296b z (am_ifn (by rw [z]; decide) (kF ff F H' (fror_t f0 fr)))
  refine rS1 (j := 2) a5 (by decide) hm (by rw [f1.1 68 (by decide), f0.1 68 (by decide)]; exact em) (DQ_q (DQ_q dq f0) f1) w1 hc z1 (fun ff v F H' fr z => ?_) (fun y2 s2 F2 H2 f2 z2 w2 => ?_)
  · exact am_ifn (by rw [z]; decide) (kF ff F H' (fror_t f0 (fror_t f1 fr)))
  have k := kO y0 y1 y2 s0 s1 s2 F2 H2 (fror_t f0 (fror_t f1 f2))
  refine am_ifp z2 ⟨nb_gdx rfl (by omega) (by decide), ?_⟩
  have e97 : F2 97 (Int32.toNatClampNeg (nI (10 * c))) = nI cl.1 := by
    rw [nb_cl rfl (by omega), f2.1 97 (by decide), f1.1 97 (by decide), f0.1 97 (by decide)]
    exact (dq.2.2.2.1 c cl hc).1.2.2.2.1
  rw [e97]
  exact k
theorem rTs {V G : am_I} {H : am_J} {l : List CLD} {s c u m dn : Nat} {M : Nat → Nat × Nat} {mk : Nat → Nat → Nat} {cl : CLD} {fd : Int32} {K : Int32 → am_I → am_J → Prop} (h : IV V) (em : V 1 10 = nI m) (hm : m ≤ 8) (rn : RNv G V u) (hd : dn ≤ 240) (hf : FDk fd) (e54 : G 66 54 = nI dn) (e55 : G 66 55 = fd) (dq : DQ l s M mk G) (hc : l[c]? = some cl) (ok : okO cl) (kS : ¬ oTg cl (wdE V m dn fd) → ∀ F H', fror G F H H' → K 0 F H') (kG : oTg cl (wdE V m dn fd) → ∀ F H', fror G F H H' → F 66 57 = 0 → WDr (wdE V m dn fd) m F H' → wb_295_107 (nI (10 * c)) F H' K) : w_295 (nI (10 * c)) G H K := by
  have em8 : G 68 1 = nI m := by
    obtain ⟨L, h⟩ := h
    obtain ⟨m', v, hm', hv, e1', e2', e3, hp⟩ := id h.1.2.1
    rw [rn.1, e2', ← e1', em]
  have cc := gixl hc
  obtain ⟨s4, l12, cd, t1, t2⟩ := id dq
  obtain ⟨⟨r1, r2, r3, r4, r5, r6, r7, r8⟩, b5, pz'⟩ := t1 c cl hc
  have a7 : nI (10 * c) + 7 = nI (10 * c + 7) := by rw [show (7 : Int32) = nI 7 from rfl, nb_add]
  have a8 : nI (10 * c) + 8 = nI (10 * c + 8) := by rw [show (8 : Int32) = nI 8 from rfl, nb_add]
  unfold w_295 w_237
  refine ⟨by decide, ?_⟩
  rw [show Int32.toNatClampNeg ((5 : Int32) + 0) = 5 by decide]
  refine q263 hm em8 ?_
  have w0 := wdR (H := H) h em hm rn hd hf e54 e55 (q1 := G 68 5) rfl (q2 := nI (fb_ct (fun p => decide (¬ G 68 (10 + p) = 0)) m)) rfl
  refine ⟨nb_gdx a7 (by omega) (by decide), nb_gdx a8 (by omega) (by decide), ?_⟩
  rw [nb_cl a7 (by omega), nb_cl a8 (by omega), r7, r8]
  have b3 := b5 3 (by decide)
  have b4 := b5 4 (by decide)
  show if _ then wb_295_107 (nI (10 * c)) (am_u G 66 57 0) (am_u (am_u (am_u (am_u (am_u H 85 1 (Int32.toInt64 (G 68 5))) 85 2 (Int32.toInt64 (G 68 9))) 85 3 (Int32.toInt64 (nI (fb_ct (fun p => decide (¬ G 68 (10 + p) = 0)) m)))) 85 4 (Int32.toInt64 (G 66 54))) 85 5 (Int32.toInt64 (G 66 55))) K else _
  generalize hH : am_u (am_u (am_u (am_u (am_u H 85 1 (Int32.toInt64 (G 68 5))) 85 2 (Int32.toInt64 (G 68 9))) 85 3 (Int32.toInt64 (nI (fb_ct (fun p => decide (¬ G 68 (10 + p) = 0)) m)))) 85 4 (Int32.toInt64 (G 66 54))) 85 5 (Int32.toInt64 (G 66 55)) = H1 at w0 ⊢
  have fr0 : fror G (am_u G 66 57 0) H H1 := ⟨fun c hc => uu_h hc, fun k k1 k2 k3 => uu_n k3, fun z => by rw [uu_n (by decide)]; exact z, fun c c1 c2 c3 => by rw [← hH, uu_h c2, uu_h c2, uu_h c2, uu_h c2, uu_h c2]⟩
  cases ht : cl.2.2.2 with
  | none =>
    refine am_ifp ?_ (kG (fun f hf => by rw [ht] at hf; cases hf) _ _ fr0 uu_e w0)
    rw [pz'.2.2.2.1 ht]
    exact (nb_le (by omega) (by omega)).mpr (Nat.le_refl _)
  | some f =>
    have pf := pz'.2.2.2.2 f ht
    have lt := pf.1
    refine am_ifn (fun z => by have := (nb_le (a := mk c 4) (b := mk c 3) (by omega) (by omega)).mp z; omega) ?_
    refine w296o (p := 10 * c + 7) (f := f) (a := mk c 3) (b := mk c 4) a7 (by omega) hm (by rw [uu_c (by decide)]; exact em8) (DQ_q dq fr0) w0 uu_e (by rw [uu_c (by decide)]; exact r7) (by rw [uu_c (by decide)]; exact r8) b4 pf (fun fn v F H' fg z => ?_) (fun v fv F H' fg z => ?_)
    · refine am_ifn (by rw [z]; decide) (kS (fun y => ?_) F H' (fror_t fr0 (fror_G fg).1))
      have y := y f ht
      rw [fn] at y
      cases y
    · refine am_ifp z ?_
      rcases ok.2.2 f ht _ v fv with y | y
      · rw [y]
        refine am_ifp rfl (kS (fun x => ?_) F H' (fror_t fr0 (fror_G fg).1))
        have x := x f ht
        rw [fv, y] at x
        injection x with x
        cases x
      · rw [y]
        refine am_ifn (by decide) (kG (fun g hg => ?_) F H' (fror_t fr0 (fror_G fg).1) z (WDr_cg w0 (fg.1 68 (by decide)) (fror_G fg).2))
        rw [ht] at hg
        injection hg with hg
        rw [← hg, fv, y]
