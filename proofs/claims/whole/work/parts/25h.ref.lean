/-! the reference reads a law's clause; clauses one behind the other -/
/-- how a clause is read, by the paper CL -/
def RCL (x : TX) (RW : RWT) (B : am_I) (LB : am_J) (CL : Nat → Nat → Rc) (w : am_I → am_J → (am_I → am_J → Prop) → Prop) : Prop := ∀ (l : List CLD) (mk : Nat → Nat → Nat) (i q s : Nat) (M : Nat → Nat × Nat) (G : am_I) (H : am_J) (K : am_I → am_J → Prop), RS x RW B LB l mk i q s M G H → (∀ j, (l.length < 12 → CL i q = (j, none)) → (l.length = 12 → j = i) → ∀ G' H', RBs x B LB j G' H' → K G' H') → (l.length < 12 → ∀ j q' c, CL i q = (j, some (q', c)) → ∀ mk' s' M' G' H', RS x RW B LB (l ++ [c]) mk' j q' s' M' G' H' → K G' H') → w G H K
theorem r210 {x : TX} {B : am_I} {LB : am_J} (hw : xw x = true) : RCL x RWl B LB (clL (xC x)) w_210 := by
  intro l mk i q s M G H K h hF hS
  obtain ⟨hx, hp, hf, hl, h21, ht⟩ := h
  have bad : ∀ r, (l.length < 12 → clL (xC x) i q = (i, none)) → wb_210_54 r 0 G H K := by
    intro r hc
    unfold wb_210_54
    refine q212fP hf hp (fun G1 g1 => ?_)
    rw [g1.2.1]
    exact am_ifn (by decide) (hF i hc (fun _ => rfl) G1 H g1)
  unfold w_210
  refine ⟨5, l210h (x := rb x G H) hp.1 hx.2.2.2.2.2 (fun r u hr => ?_) 4 0 (-1) rfl (Or.inr ⟨fun k hk => absurd hk (Nat.not_lt_zero _), rfl⟩)⟩
  rcases hr with ⟨k, k1, k2, k3⟩ | ⟨k1, k2⟩
  · have k2 : xC x i = 1000000 + k := k2
    rw [k3]
    refine am_ifn (nb_m1 (by omega)) ?_
    rw [h21]
    by_cases c12 : l.length = 12
    · exact am_ifp (show (12 : Int32) ≤ nI l.length from nI_le (a := 12) (by omega) (by omega)) (bad _ (fun z => by omega))
    · refine am_ifn (show ¬ (12 : Int32) ≤ nI l.length from nI_ge (b := 12) (by omega) (by decide)) ?_
      have il := (RP_c hx hp).2.2.1 (by show xC x i ≠ 3000000; omega)
      unfold wb_210_54
      refine q212tP hx hp il (fun G1 H1 g1 => ?_)
      have f1 := g1.2.1
      have e21 : G1 66 21 = nI l.length := (f1.2.1 21 (by unfold s66; omega)).trans h21
      have e23 : G1 66 23 = nI s := g1.2.2.2.2.2.1
      have x76 : G1 76 = G 76 := f1.1 76 (by decide) (by decide) (by decide) (by decide) (by decide)
      have x8 : 8 * (G1 66 21) = nI (8 * l.length) := by rw [e21, show (8 : Int32) = nI 8 from rfl, nb_mul]
      have x3 : nI (8 * l.length) + 3 = nI (8 * l.length + 3) := by rw [show (3 : Int32) = nI 3 from rfl, nb_add]
      rw [g1.2.2.2.1, x8]
      refine am_ifp rfl ⟨9, l75 (c := l.length) (G0 := G1) (by omega) (fun v G2 a1 a2 => ?_) 8 0 G1 rfl (fun _ _ => rfl) (fun _ _ => rfl)⟩
      refine ⟨nb_gd (by omega) (by decide), nb_gdx x3 (by omega) (by decide), ?_⟩
      rw [nI_clamp (by omega : 8 * l.length < 2 ^ 31), nb_cl x3 (by omega)]
      obtain ⟨G3, eG3⟩ : ∃ G3, G3 = am_u (am_u (am_u G2 76 (8 * l.length) (nI k)) 66 21 (G2 66 21 + 1)) 76 (8 * l.length + 3) (G2 66 23) := ⟨_, rfl⟩
      rw [← eG3]
      have w1 : ∀ c, c ≠ 66 → c ≠ 76 → c ≠ 97 → G3 c = G1 c := fun c c1 c2 c3 => by rw [eG3, uu_h c2, uu_h c1, uu_h c2]; exact a1 c c2
      have w2 : ∀ k, k ≠ 21 → G3 66 k = G1 66 k := fun k hk => by rw [eG3, uu_c (by decide), uu_n hk, uu_c (by decide), a1 66 (by decide)]
      obtain ⟨y1, y2⟩ := rb_ok hx g1
      have hz := rb_w (x := x) (G' := G3) y1 y2 w1 w2
      obtain ⟨z1, z2⟩ := hz
      have hf3 : frSx B G3 LB H1 := frSx_w (frSx_R hf f1) w1 w2
      have ro : RO x B LB l mk k s [] (i + 1) q s M G3 H1 := by
        refine ⟨z1, z2, hf3, by omega, ?_, TXr_76 ht (fun _ _ => rfl) (Nat.le_refl _) (fun k' k1' k2' => by omega) (fun k' hk => ?_), by omega, ?_, ?_, Nat.le_refl _, Or.inl ⟨rfl, rfl⟩⟩
        · rw [eG3, uu_c (by decide), uu_e, a1 66 (by decide), e21, nI_succ]
        · rw [eG3, uu_n (by omega), uu_c (by decide), uu_n (by omega), a2 k' hk, x76]
        · rw [eG3, uu_n (by omega), uu_c (by decide), uu_e]
        · rw [eG3, uu_e, a1 66 (by decide)]; exact e23
      by_cases ck : k = 3
      · have ep : clL (xC x) i q = ifP (xC x) true (3, 1, [], none) (i + 1) q := by
          unfold clL
          rw [if_pos (by omega)]
        rw [ck] at ro ⊢
        refine am_ifp rfl ?_
        exact r135 rfl hw ro (fun j e G' H' g => hF j (fun _ => ep.trans e) (fun z => by omega) G' H' g) (fun j q' c e mk s' M' G' H' g => hS (by omega) j q' c (ep.trans e) mk s' M' G' H' g)
      · have ep : clL (xC x) i q = bd (smD (xC x) true 8 (i + 1) q) (fun j y => ifP (xC x) true (k, 1, [y.2], none) j y.1) := by
          unfold clL
          rw [if_neg (by omega), if_pos (by omega), k2, Nat.add_sub_cancel_left]
        refine am_ifn (fun z => ck ((nb_inj (a := k) (b := 3) (by omega) (by decide)).mp z)) ?_
        refine q213s z1 z2 (fun j e G4 H4 g4 => ?_) (fun j q' f e s' M' G4 H4 g4 m4 p4 => ?_)
        · have e : smD (xC x) (xw x) 8 (i + 1) q = (j, none) := e
          rw [hw] at e
          show wb_210_135 (nI (8 * l.length)) G4 H4 K
          exact r135b rfl (by omega) (RBs_of hf3 g4) (fun G5 g5 => hF j (fun _ => by rw [ep, e]; rfl) (fun z => by omega) G5 H4 g5)
        · have e : smD (xC x) (xw x) 8 (i + 1) q = (j, some (q', f)) := e
          rw [hw] at e
          have f4 := g4.2.1
          have y76 : G4 76 = G3 76 := f4.1 76 (by decide) (by decide) (by decide) (by decide) (by decide)
          have ps := p4.1
          obtain ⟨r1, r2, r3, r4, r5, r6, r7, r8, r9, r10, r11⟩ := ro
          have ro2 : RO x B LB l mk k s [f] j q' s' M' G4 H4 := ⟨(rb_ok z1 g4).1, (rb_ok z1 g4).2, frSx_R hf3 f4, r4, (f4.2.1 21 (by unfold s66; omega)).trans r5, TXr_76 r6 m4 (by omega) p4.2.1 (fun k' hk => by rw [y76]), r7, by rw [y76]; exact r8, by rw [y76]; exact r9, by omega, Or.inr ⟨f, rfl, p4⟩⟩
          have e2 : clL (xC x) i q = ifP (xC x) true (k, 1, [f], none) j q' := by
            rw [ep, e]
            rfl
          show wb_210_135 (nI (8 * l.length)) G4 H4 K
          exact r135 rfl hw ro2 (fun j2 e3 G' H' g => hF j2 (fun _ => e2.trans e3) (fun z => by omega) G' H' g) (fun j2 q2 c e3 mk s2 M2 G' H' g => hS (by omega) j2 q2 c (e2.trans e3) mk s2 M2 G' H' g)
  · rw [k2]
    refine am_ifp rfl (bad _ (fun _ => ?_))
    have b0 : xC x i ≠ 1000000 + 0 := k1 0 (by decide)
    have b1' : xC x i ≠ 1000000 + 1 := k1 1 (by decide)
    have b2 : xC x i ≠ 1000000 + 2 := k1 2 (by decide)
    have b3 : xC x i ≠ 1000000 + 3 := k1 3 (by decide)
    unfold clL
    rw [if_neg (by omega), if_neg (by omega)]
/-- what comes behind the clauses l, by the paper -/
def rsP (C : Nat → Nat) (CL : Nat → Nat → Rc) (l : List CLD) (k i q : Nat) : Nat × Option (List CLD) := if C i = 3000000 then (i, some l) else if C i = 2000059 then bd (txP C CL k (i + 1) q) (fun j l2 => (j, some (l ++ l2))) else (i, none)
theorem rsP_s {C : Nat → Nat} {CL : Nat → Nat → Rc} {l : List CLD} {k i q j q' : Nat} {c : CLD} (h : C i = 2000059) (e : CL (i + 1) q = (j, some (q', c))) : rsP C CL l (k + 1) i q = rsP C CL (l ++ [c]) k j q' := by
  unfold rsP
  rw [if_neg (by omega), if_pos h]
  show bd (bd (CL (i + 1) q) _) _ = _
  rw [e]
  show bd (if C j = 3000000 then (j, some [c]) else if C j = 2000059 then bd (txP C CL k (j + 1) q') (fun j2 l => (j2, some (c :: l))) else (j, none)) _ = _
  by_cases c1 : C j = 3000000
  · rw [if_pos c1, if_pos c1]
    rfl
  · rw [if_neg c1, if_neg c1]
    by_cases c2 : C j = 2000059
    · rw [if_pos c2, if_pos c2]
      generalize txP C CL k (j + 1) q' = r
      obtain ⟨a, b⟩ := r
      cases b with
      | none => rfl
      | some l2 =>
        show (a, some (l ++ c :: l2)) = (a, some ((l ++ [c]) ++ l2))
        rw [List.append_assoc]
        rfl
    · rw [if_neg c2, if_neg c2]
      rfl
theorem rsP_0 {C : Nat → Nat} {CL : Nat → Nat → Rc} {l : List CLD} {i q : Nat} (h : C i = 2000059) : rsP C CL l 0 i q = (i + 1, none) := by
  unfold rsP
  rw [if_neg (by omega), if_pos h]
  rfl
theorem rsP_f {C : Nat → Nat} {CL : Nat → Nat → Rc} {l : List CLD} {k i q j : Nat} (h : C i = 2000059) (e : CL (i + 1) q = (j, none)) : rsP C CL l (k + 1) i q = (j, none) := by
  unfold rsP
  rw [if_neg (by omega), if_pos h]
  show bd (bd (CL (i + 1) q) _) _ = _
  rw [e]
  rfl
