/-! the class reads clauses: a law's clause, texts -/
theorem q56 {n : Nat} {C : Nat → Nat} {law : Bool} {B : am_I} {l : List CLD} {mk : Nat → Nat → Nat} {i q s kd : Nat} {M : Nat → Nat × Nat} {G : am_I} {K : am_I → Prop} (h : CS n C law B l mk i q s M G) (hl : l.length < 12) (hk : kd ≤ 3) (hK : ∀ G', CO n C law B l kd 1 [] i q s M G' → K G') : w_56 (nI kd) G K := by
  obtain ⟨⟨r1, r2, r3, r4, r5, r6, r7, r8, r9⟩, ⟨b1', b2, b3, b4, b5⟩, h3, ⟨t1, t2, t3, t4⟩, h5⟩ := h
  unfold w_56
  rw [t2, if_neg (show ¬ Int32.ofNat 12 ≤ nI l.length from nI_ge (b := 12) hl (by decide))]
  refine ⟨nb_gd hl (by decide), nb_gd hl (by decide), ?_⟩
  rw [nI_clamp (by omega), ← nI_succ]
  refine q57 (c := l.length) (m := 0) (s := s) hl (by decide) uu_e (by rw [uu_n (by decide), uu_c (by decide), uu_c (by decide)]; exact r8) (fun G' g1 g2 g3 => hK G' ⟨fun c j => if c = l.length then s else mk c j, ?_, fun j _ _ => if_pos rfl⟩)
  have x14 : G' 14 = G 14 := by rw [g1 14 (by decide), uu_h (by decide), uu_h (by decide), uu_h (by decide)]
  have x17 : G' 17 = G 17 := by rw [g1 17 (by decide), uu_h (by decide), uu_h (by decide), uu_h (by decide)]
  have x21 : G' 21 = G 21 := by rw [g1 21 (by decide), uu_h (by decide), uu_h (by decide), uu_h (by decide)]
  refine ⟨⟨r1, r2, r3, ⟨fun _ _ _ _ => rfl, fun _ _ _ _ => rfl, fun _ _ => rfl⟩, by rw [x14]; exact r5, by rw [x14]; exact r6, by rw [x14]; exact r7, by rw [g1 16 (by decide), uu_n (by decide), uu_c (by decide), uu_c (by decide)]; exact r8, fun k hk => by rw [x17]; exact r9 k hk⟩, ⟨b1', fun k hk => by rw [x21]; exact b2 k hk, b3, b4, by rw [x14]; exact b5⟩, ⟨fun c c1 c2 c3 c4 c5 c6 => by rw [g1 c c6, uu_h c2, uu_h c5, uu_h c4]; exact h3.1 c c1 c2 c3 c4 c5 c6, fun k k1 k2 k3 => by rw [x14]; exact h3.2.1 k k1 k2 k3, fun k k1 k2 => by rw [g1 16 (by decide), uu_n k2, uu_c (by decide), uu_c (by decide)]; exact h3.2.2 k k1 k2⟩, ⟨by rw [ln1]; omega, by rw [ln1, g1 16 (by decide), uu_e], fun c x e => ?_, t4⟩, h5⟩
  rcases gix e with ⟨a, b⟩ | ⟨a, b⟩
  · obtain ⟨a1, a2, a3, a4, a5, a6, a7⟩ := t3 c x b
    refine ⟨a1, a2, a3, by rw [g1 18 (by decide), uu_c (by decide), uu_c (by decide), uu_n (by omega)]; exact a4, by rw [g1 19 (by decide), uu_c (by decide), uu_n (by omega), uu_c (by decide)]; exact a5, fun i hi => ?_, pz_cg a7 (fun i hi => (a6 i hi).2) (fun _ _ => rfl) (fun i hi => if_neg (by omega))⟩
    show G' 20 (c * 5 + i) = nI (if c = l.length then s else mk c i) ∧ (if c = l.length then s else mk c i) ≤ s
    rw [if_neg (by omega), g3 _ (by omega), uu_c (by decide), uu_c (by decide), uu_c (by decide)]
    exact a6 i hi
  · rw [b, a]
    refine ⟨hk, by show 1 ≤ 1; decide, by show 1 ≤ 20; decide, ?_, ?_, fun i hi => ?_, ⟨Nat.zero_le _, fun i f h => absurd (gixl h) (Nat.not_lt_zero _), fun i _ _ => by show (if l.length = l.length then s else mk l.length (i + 1)) = (if l.length = l.length then s else mk l.length i); rw [if_pos rfl, if_pos rfl], fun _ => by show (if l.length = l.length then s else mk l.length 4) = (if l.length = l.length then s else mk l.length 3); rw [if_pos rfl, if_pos rfl], fun f h => by cases h⟩⟩
    · show G' 18 l.length = nI kd
      rw [g1 18 (by decide), uu_c (by decide), uu_c (by decide), uu_e]
    · show G' 19 l.length = 1
      rw [g1 19 (by decide), uu_c (by decide), uu_e]
    · show G' 20 (l.length * 5 + i) = nI (if l.length = l.length then s else mk l.length i) ∧ (if l.length = l.length then s else mk l.length i) ≤ s
      rw [if_pos rfl]
      exact ⟨g2 i (Nat.zero_le _) hi, Nat.le_refl _⟩
/-- how a clause is read, by the paper CL -/
def CCL (n : Nat) (C : Nat → Nat) (law : Bool) (B : am_I) (CL : Nat → Nat → Rc) (w : am_I → (Int32 → am_I → Prop) → Prop) : Prop := ∀ (l : List CLD) (mk : Nat → Nat → Nat) (i q s : Nat) (M : Nat → Nat × Nat) (G : am_I) (K : Int32 → am_I → Prop), l.length < 12 → CS n C law B l mk i q s M G → (∀ j, CL i q = (j, none) → ∀ G', CF n B j G' → K 0 G') → (∀ j q' c, CL i q = (j, some (q', c)) → ∀ mk s' M' G', CS n C law B (l ++ [c]) mk j q' s' M' G' → K 1 G') → w G K
theorem c55 {n : Nat} {C : Nat → Nat} {B : am_I} : CCL n C true B (clL C) w_55 := by
  intro l mk i q s M G K hl h hF hS
  have e8 := h.1.2.2.2.2.2.1
  have cl := BC_le h.2.1 h.1.1
  unfold w_55
  rw [e8, show (1000000 : Int32) = nI 1000000 from rfl, show f_13 (nI (C i) - nI 1000000) 0 3 = b1 (decide (1000000 + 0 ≤ C i ∧ C i ≤ 1000000 + 3)) from f13s (k := 1000000) (a := 0) (b := 3) cl (by decide) (by decide) (by decide)]
  refine ifd (fun c => ?_) (fun c => ?_)
  · refine hF i ?_ G (CS_CF h)
    unfold clL
    rw [if_neg (by omega), if_neg (by omega)]
  · rw [nb_sub (by omega)]
    obtain ⟨kd, ekd⟩ : ∃ kd, kd = C i - 1000000 := ⟨_, rfl⟩
    rw [← ekd]
    refine q56 h hl (by omega) (fun G1 h1 => ?_)
    have h1' := h1
    obtain ⟨mk1, c1, _⟩ := h1'
    refine q58 c1.2.1 c1.1 (by omega) (fun il G2 g2 => ?_)
    have h2 := co_rb h1 g2 (by omega)
    by_cases ck : kd = 3
    · have ep : clL C i q = ifP C true (3, 1, [], none) (i + 1) q := by
        unfold clL
        rw [if_pos (by omega)]
      rw [ck] at h2
      rw [ck]
      refine am_ifp rfl ?_
      refine co_n (m := 1) h2 (Nat.zero_le _) (by decide) (fun G3 h3 => ?_)
      exact q67 h3 (Nat.zero_le _) (fun j e G4 g4 => ⟨Or.inl rfl, hF j (by rw [ep]; exact e) G4 g4⟩) (fun j q' c' e mk s' M' G4 g4 => ⟨Or.inr rfl, hS j q' c' (by rw [ep]; exact e) mk s' M' G4 g4⟩)
    · have ep : clL C i q = bd (smD C true 8 (i + 1) q) (fun j y => ifP C true (kd, 1, [y.2], none) j y.1) := by
        unfold clL
        rw [if_neg (by omega), if_pos (by omega), ekd]
      refine am_ifn (fun z => ck ((nb_inj (a := kd) (b := 3) (by omega) (by decide)).mp z)) ?_
      have h2' := h2
      obtain ⟨mk2, c2, _⟩ := h2'
      refine cx59 c2.2.1 (i + 1) q s M G2 _ c2.2.2.2.2 c2.1 (fun j e G3 g3 => ?_) (fun j q' f e s' M' G3 g3 m3 l3 p3 => ?_)
      · exact am_ifp rfl (hF j (by rw [ep, e]; rfl) G3 (CF_of c2.2.2.1 g3))
      · refine am_ifn (by decide) ?_
        refine co_s h2 (by show 0 < 3; decide) g3 m3 l3 p3 (fun G4 h4 => ?_)
        have e2 : clL C i q = ifP C true (kd, 1, [f], none) j q' := by
          rw [ep, e]
          rfl
        exact q67 h4 (by show 1 ≤ 3; decide) (fun j2 e3 G5 g5 => ⟨Or.inl rfl, hF j2 (e2.trans e3) G5 g5⟩) (fun j2 q2 c' e3 mk s2 M2 G5 g5 => ⟨Or.inr rfl, hS j2 q2 c' (e2.trans e3) mk s2 M2 G5 g5⟩)
theorem l39x {k : Nat} {v2 v4 : Int32} {G : am_I} {E : Int32 → Int32 → Int32 → am_I → Prop} (h : E v2 0 v4 G) : lw_39_43 (k + 1) v2 0 v4 G E := by
  unfold lw_39_43
  by_cases c : (12 : Int32) ≤ v4
  · rw [if_pos c]; exact h
  · rw [if_neg c, if_pos rfl]; exact h
def K39 (n : Nat) (v4 : Int32) (E0 : Int32 → Int32 → Int32 → am_I → Prop) : Int32 → am_I → Prop := fun q3 I4 => if q3 = 0 then (if q3 = 0 then lw_39_43 n 0 0 (v4 + 1) I4 E0 else w_62 2000059 I4 (fun q5 I6 => if q5 = 0 then lw_39_43 n 0 0 (v4 + 1) I6 E0 else lw_39_43 n 0 1 (v4 + 1) I6 E0)) else (if (I4 14 8) = 3000000 then (if q3 = 0 then lw_39_43 n 1 0 (v4 + 1) I4 E0 else w_62 2000059 I4 (fun q9 I10 => if q9 = 0 then lw_39_43 n 1 0 (v4 + 1) I10 E0 else lw_39_43 n 1 1 (v4 + 1) I10 E0)) else (if q3 = 0 then lw_39_43 n 0 0 (v4 + 1) I4 E0 else w_62 2000059 I4 (fun q7 I8 => if q7 = 0 then lw_39_43 n 0 0 (v4 + 1) I8 E0 else lw_39_43 n 0 1 (v4 + 1) I8 E0)))
theorem l39 {n : Nat} {C : Nat → Nat} {law : Bool} {B : am_I} {CL : Nat → Nat → Rc} {w : am_I → (Int32 → am_I → Prop) → Prop} {E : Int32 → Int32 → Int32 → am_I → Prop} (hw : CCL n C law B CL w) (hsel : (law = true ∧ w = w_55) ∨ (law = false ∧ w = w_72)) : ∀ k l mk i q s M G, l.length + k = 12 → CS n C law B l mk i q s M G → (∀ j, txP C CL k i q = (j, none) → ∀ v v' G', CF n B j G' → E 0 v v' G') → (∀ j l', txP C CL k i q = (j, some l') → ∀ mk q' s' M' G' v v', CS n C law B (l ++ l') mk j q' s' M' G' → E 1 v v' G') → lw_39_43 (k + 2) 0 1 (nI l.length) G E
  | 0, l, mu, i, q, s, M, G, hl, h, hF, hS => by
    unfold lw_39_43
    rw [if_pos (show (12 : Int32) ≤ nI l.length from nI_le (a := 12) (by omega) (by omega))]
    exact hF i rfl _ _ G (CS_CF h)
  | k + 1, l, mu, i, q, s, M, G, hl, h, hF, hS => by
    have kk : w G (K39 (k + 2) (nI l.length) E) := by
      refine hw l mu i q s M G _ (by omega) h (fun j e G' g => ?_) (fun j q' c e mk' s' M' G' g => ?_)
      · exact am_ifp rfl (am_ifp rfl (l39x (hF j (by show bd (CL i q) _ = _; rw [e]; rfl) _ _ G' g)))
      · have et : txP C CL (k + 1) i q = (if C j = 3000000 then (j, some [c]) else if C j = 2000059 then bd (txP C CL k (j + 1) q') (fun j2 l => (j2, some (c :: l))) else (j, none)) := by
          show bd (CL i q) _ = _
          rw [e]
          rfl
        have e8 := g.1.2.2.2.2.2.1
        have cl := BC_le g.2.1 g.1.1
        refine am_ifn (by decide) ?_
        by_cases cE : C j = 3000000
        · rw [if_pos cE] at et
          rw [e8, cE]
          refine am_ifp rfl (am_ifn (by decide) ?_)
          exact q62 (x := 2000059) g.2.1 g.1 (by decide) (fun _ => am_ifp rfl (l39x (hS j [c] et mk' q' s' M' G' _ _ g))) (fun c2 => by omega)
        · rw [if_neg cE] at et
          rw [e8]
          refine am_ifn (fun z => cE ((nb_inj (b := 3000000) (by omega) (by decide)).mp z)) (am_ifn (by decide) ?_)
          refine q62 (x := 2000059) g.2.1 g.1 (by decide) (fun c2 => ?_) (fun c2 il G2 g2 => ?_)
          · rw [if_neg c2] at et
            exact am_ifp rfl (l39x (hF j et _ _ G' (CS_CF g)))
          · rw [if_pos c2] at et
            refine am_ifn (by decide) ?_
            have s1 := g.2.2.2.2
            have ih := l39 hw hsel k (l ++ [c]) mk' (j + 1) q' s' M' G2 (by rw [ln1]; omega) (CS_rb g g2 (fun _ _ => rfl) (Nat.le_refl _) (by omega) (fun k k1 k2 => by omega)) (fun j2 e2 v v' G3 g3 => hF j2 (by rw [et, e2]; rfl) v v' G3 g3) (fun j2 l' e2 mk2 q2 s2 M2 G3 v v' g3 => hS j2 (c :: l') (by rw [et, e2]; rfl) mk2 q2 s2 M2 G3 v v' (by rw [List.append_assoc] at g3; exact g3))
            rw [ln1, nI_succ] at ih
            exact ih
    have e4 := h.2.1.2.2.2.2
    unfold lw_39_43
    rw [if_neg (show ¬ (12 : Int32) ≤ nI l.length from nI_ge (b := 12) (by omega) (by decide)), if_neg (by decide), e4]
    rcases hsel with ⟨rfl, rfl⟩ | ⟨rfl, rfl⟩
    · exact am_ifn (by decide) kk
    · exact am_ifp rfl kk
