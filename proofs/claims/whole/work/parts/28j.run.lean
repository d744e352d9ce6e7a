/-! orders: one time of one clause, by the class: the test, the sums -/
theorem WDc_cg {e : Nat → Nat → Int} {m : Nat} {I J : am_I} (h : WDc e m I) (e25 : J 25 = I 25) (e6 : J 6 = I 6) (e7 : J 7 = I 7) : WDc e m J := by
  unfold WDc
  rw [e25, e6, e7]
  exact h
/-- the test holds, or there is none -/
def oTg (cl : CLD) (e : Nat → Nat → Int) : Prop := ∀ f, cl.2.2.2 = some f → f e = some 1
theorem cT {V I : am_I} {T : Nat → Nat × Nat} {r : Nat → Nat → Option Nat} {l : List CLD} {s c u m dn : Nat} {M : Nat → Nat × Nat} {mk : Nat → Nat → Nat} {cl : CLD} {fd : Int32} {K C2 : am_I → Prop} (h : IV V) (em : V 1 10 = nI m) (hm : m ≤ 8) (cn : CNv I V u) (hd : dn ≤ 240) (hf : FDk fd) (e0 : I 35 0 = nI dn) (e2 : I 35 2 = fd) (dc : DC l s M mk I) (hc : l[c]? = some cl) (ok : okO cl) (kS : ¬ oTg cl (wdE V m dn fd) → ∀ J, (∀ c, c ≠ 24 → c ≠ 25 → c ≠ 26 → J c = I c) → K J) (kG : oTg cl (wdE V m dn fd) → ∀ J, (∀ c, c ≠ 24 → c ≠ 25 → c ≠ 26 → J c = I c) → WDc (wdE V m dn fd) m J → C2 J) : w_85 T r I (fun I3 => w_87 16 (nI c) 3 T r I3 (fun q4 I5 => if q4 = 0 then K I5 else if I5 24 1 = 1 then C2 I5 else K I5)) := by
  refine q85 h em hm cn hd hf e0 e2 (fun I3 o3 w3 => ?_)
  have d3 : DC l s M mk I3 := DC_cg dc (fun c c1 c2 => o3 c (by omega))
  have m3 : I3 1 10 = nI m := by rw [o3 1 (by decide), cn.1 1 (by decide) (by decide)]; exact em
  have fr : ∀ J : am_I, (∀ c, c ≠ 24 → c ≠ 26 → J c = I3 c) → ∀ c, c ≠ 24 → c ≠ 25 → c ≠ 26 → J c = I c := fun J j c c1 c2 c3 => by rw [j c c1 c3, o3 c c2]
  have wd : ∀ J : am_I, (∀ c, c ≠ 24 → c ≠ 26 → J c = I3 c) → WDc (wdE V m dn fd) m J := fun J j => WDc_cg w3 (j 25 (by decide) (by decide)) (j 6 (by decide) (by decide)) (j 7 (by decide) (by decide))
  have pz' := (d3.2.2.2.2.2.1 c cl hc).2.2.2.2.2.2
  cases ht : cl.2.2.2 with
  | none =>
    refine w87n hm m3 d3 w3 hc (i := 3) (by decide) rfl (pz'.2.2.2.1 ht) (fun J j1 j2 => ?_)
    refine am_ifn (by decide) ?_
    rw [if_pos j2]
    exact kG (fun f hf => by rw [ht] at hf; cases hf) J (fr J j1) (wd J j1)
  | some f =>
    refine w87o hm m3 d3 w3 hc (i := 3) (f := f) (by decide) rfl (pz'.2.2.2.2 f ht) (fun fn J j1 => ?_) (fun v fv J j1 j2 => ?_)
    · refine am_ifp rfl (kS (fun z => ?_) J (fr J j1))
      have z := z f ht
      rw [fn] at z
      cases z
    · refine am_ifn (by decide) ?_
      rcases ok.2.2 f ht _ v fv with z | z
      · rw [if_neg (by rw [j2, z]; decide)]
        refine kS (fun y => ?_) J (fr J j1)
        have y := y f ht
        rw [fv, z] at y
        injection y with y
        cases y
      · rw [if_pos (by rw [j2, z]; rfl)]
        refine kG (fun g hg => ?_) J (fr J j1) (wd J j1)
        rw [ht] at hg
        injection hg with hg
        rw [← hg, fv, z]
theorem l92 {T : Nat → Nat × Nat} {r : Nat → Nat → Option Nat} {l : List CLD} {s c m : Nat} {M : Nat → Nat × Nat} {mk : Nat → Nat → Nat} {B : am_I} {cl : CLD} {e : Nat → Nat → Int} {E0 R : Int32 → am_I → Prop} {x6 : Int32} (hm : m ≤ 8) (em : B 1 10 = nI m) (dc : DC l s M mk B) (w : WDc e m B) (hc : l[c]? = some cl) (ex : x6 = nI cl.2.2.1.length) (hF : (∃ (i : Nat) (f : FN), cl.2.2.1[i]? = some f ∧ f e = none) → ∀ J, (∀ c, c ≠ 24 → c ≠ 26 → c ≠ 54 → J c = B c) → R 0 J) (hS : ∀ y J, (∀ c, c ≠ 24 → c ≠ 26 → c ≠ 54 → J c = B c) → (∀ (i : Nat) (f : FN), cl.2.2.1[i]? = some f → ∃ v, f e = some v ∧ J 54 i = Int32.ofInt v) → E0 y J) : ∀ k j I, j + k = cl.2.2.1.length → (∀ c, c ≠ 24 → c ≠ 26 → c ≠ 54 → I c = B c) → (∀ (i : Nat) (f : FN), i < j → cl.2.2.1[i]? = some f → ∃ v, f e = some v ∧ I 54 i = Int32.ofInt v) → lw_92_32 (k + 1) (nI c) x6 (nI j) T r I E0 R
  | 0, j, I, hj, fr, al => by
    unfold lw_92_32
    rw [ex, show cl.2.2.1.length = j by omega]
    exact am_ifp ((nb_le (by have := (dc.2.2.2.2.2.1 c cl hc).2.2.2.2.2.2.1; omega) (by have := (dc.2.2.2.2.2.1 c cl hc).2.2.2.2.2.2.1; omega)).mpr (Nat.le_refl _)) (hS _ I fr (fun i f hi => al i f (by have := gixl hi; omega) hi))
  | k + 1, j, I, hj, fr, al => by
    have pz' := (dc.2.2.2.2.2.1 c cl hc).2.2.2.2.2.2
    have l3 := pz'.1
    have jl : j < cl.2.2.1.length := by omega
    obtain ⟨f, ef⟩ : ∃ f, cl.2.2.1[j]? = some f := ⟨_, List.getElem?_eq_getElem jl⟩
    have d3 : DC l s M mk I := DC_cg dc (fun c c1 c2 => fr c (by omega) (by omega) (by omega))
    have w3 : WDc e m I := WDc_cg w (fr 25 (by decide) (by decide) (by decide)) (fr 6 (by decide) (by decide) (by decide)) (fr 7 (by decide) (by decide) (by decide))
    unfold lw_92_32
    rw [ex]
    refine am_ifn (fun z => by have := (nb_le (by omega) (by omega)).mp z; omega) ?_
    refine w87o hm (by rw [fr 1 (by decide) (by decide) (by decide)]; exact em) d3 w3 hc (i := j) (f := f) (by omega) rfl (pz'.2.1 j f ef) (fun fn J j1 => ?_) (fun v fv J j1 j2 => ?_)
    · exact am_ifp rfl (hF ⟨j, f, ef, fn⟩ J (fun c c1 c2 c3 => by rw [j1 c c1 c2, fr c c1 c2 c3]))
    · refine am_ifn (by decide) ⟨nb_gdx rfl (by omega) (by decide), ?_⟩
      rw [nb_cl rfl (by omega), ← nI_succ, j2, ← ex]
      refine l92 hm em dc w hc ex hF hS k (j + 1) _ (by omega) (fun c c1 c2 c3 => by rw [uu_h c3, j1 c c1 c2, fr c c1 c2 c3]) (fun i g hi hg => ?_)
      by_cases ij : i = j
      · rw [ij] at hg ⊢
        rw [ef] at hg
        injection hg with hg
        exact ⟨v, by rw [← hg]; exact fv, uu_e⟩
      · obtain ⟨v', a1, a2⟩ := al i g (by omega) hg
        exact ⟨v', a1, by rw [uu_n ij, j1 54 (by decide) (by decide)]; exact a2⟩
theorem cSm {T : Nat → Nat × Nat} {r : Nat → Nat → Option Nat} {l : List CLD} {s c m : Nat} {M : Nat → Nat × Nat} {mk : Nat → Nat → Nat} {B : am_I} {cl : CLD} {e : Nat → Nat → Int} {K : Int32 → am_I → Prop} (hm : m ≤ 8) (em : B 1 10 = nI m) (dc : DC l s M mk B) (w : WDc e m B) (hc : l[c]? = some cl) (ok : okO cl) (hF : (∃ (i : Nat) (f : FN), cl.2.2.1[i]? = some f ∧ f e = none) → ∀ J, (∀ c, c ≠ 24 → c ≠ 26 → c ≠ 54 → J c = B c) → K 0 J) (hS : ∀ J, (∀ c, c ≠ 24 → c ≠ 26 → c ≠ 54 → J c = B c) → (∀ (i : Nat) (f : FN), cl.2.2.1[i]? = some f → ∃ v, f e = some v ∧ J 54 i = Int32.ofInt v) → K 1 J) : w_92 (nI c) T r B K := by
  have tx := dc.2.2.2
  have cc := gixl hc
  obtain ⟨k1, k2, k3⟩ := ok
  have lp : ∀ x6, x6 = nI cl.2.2.1.length → lw_92_32 (cl.2.2.1.length + 1) (nI c) x6 0 T r B (fun o12 I13 => K 1 I13) K := fun x6 ex => l92 hm em dc w hc ex hF (fun _ J j1 j2 => hS J j1 j2) cl.2.2.1.length 0 B (by omega) (fun _ _ _ _ => rfl) (fun i f hi => absurd hi (Nat.not_lt_zero _))
  unfold w_92
  refine q83 (nc := l.length) (c3 := 18) (kd := cl.1) rfl rfl rfl (by show l.length ≤ 12; exact tx.1) tx.2.1 tx.1 cc ((tx.2.2.1 c cl hc).2.2.2.1) ?_
  rcases (by omega : cl.1 = 0 ∨ cl.1 = 1 ∨ cl.1 = 2 ∨ cl.1 = 3) with z | z | z | z
  · rw [z] at k2 ⊢
    exact am_ifp rfl ⟨_, lp 2 (by rw [k2]; rfl)⟩
  · rw [z] at k2 ⊢
    exact am_ifn (by decide) (am_ifp rfl ⟨_, lp 3 (by rw [k2]; rfl)⟩)
  · rw [z] at k2 ⊢
    exact am_ifn (by decide) (am_ifn (by decide) ⟨_, lp 0 (by rw [k2]; rfl)⟩)
  · rw [z] at k2 ⊢
    exact am_ifn (by decide) (am_ifn (by decide) ⟨_, lp 0 (by rw [k2]; rfl)⟩)
