/-! the class reads clauses: its draft -/
def frD (B G : am_I) : Prop := (∀ c, c ≠ 14 → c ≠ 16 → c ≠ 17 → c ≠ 18 → c ≠ 19 → c ≠ 20 → G c = B c) ∧ (∀ k, k ≠ 7 → k ≠ 8 → k ≠ 9 → G 14 k = B 14 k) ∧ ∀ k, k ≠ 1 → k ≠ 2 → G 16 k = B 16 k
def TXa (law : Bool) (s : Nat) (M : Nat → Nat × Nat) (m : Nat → Nat) (G : am_I) (c : Nat) (cl : CLD) : Prop := cl.1 ≤ 3 ∧ 1 ≤ cl.2.1 ∧ cl.2.1 ≤ 20 ∧ G 18 c = nI cl.1 ∧ G 19 c = nI cl.2.1 ∧ (∀ i, i < 5 → G 20 (c * 5 + i) = nI (m i) ∧ m i ≤ s) ∧ pz law M cl m
def TXd (law : Bool) (l : List CLD) (s : Nat) (M : Nat → Nat × Nat) (mk : Nat → Nat → Nat) (G : am_I) : Prop := l.length ≤ 12 ∧ G 16 2 = nI l.length ∧ (∀ c cl, l[c]? = some cl → TXa law s M (mk c) G c cl) ∧ ∀ k, k < s → okM law k (M k)
def CS (n : Nat) (C : Nat → Nat) (law : Bool) (B : am_I) (l : List CLD) (mk : Nat → Nat → Nat) (i q s : Nat) (M : Nat → Nat × Nat) (G : am_I) : Prop := RD n C G i q s M G ∧ BC n C law G ∧ frD B G ∧ TXd law l s M mk G ∧ s ≤ i
def CF (n : Nat) (B : am_I) (j : Nat) (G : am_I) : Prop := j ≤ n ∧ frD B G ∧ G 14 7 = nI j
theorem frD_C {B G G' : am_I} (h : frD B G) (g : frC G G') : frD B G' := ⟨fun c c1 c2 c3 c4 c5 c6 => (g.1 c c1 c2 c3).trans (h.1 c c1 c2 c3 c4 c5 c6), fun k k1 k2 k3 => (g.2.1 k k1 k2 k3).trans (h.2.1 k k1 k2 k3), fun k k1 k2 => (g.2.2 k k1).trans (h.2.2 k k1 k2)⟩
theorem CF_of {n : Nat} {B G : am_I} {j : Nat} {G' : am_I} (h : frD B G) (g : RF n G j G') : CF n B j G' := ⟨g.1, frD_C h g.2.1, g.2.2⟩
theorem CS_CF {n : Nat} {C : Nat → Nat} {law : Bool} {B : am_I} {l : List CLD} {mk : Nat → Nat → Nat} {i q s : Nat} {M : Nat → Nat × Nat} {G : am_I} (h : CS n C law B l mk i q s M G) : CF n B i G := CF_of h.2.2.1 (RD_RF h.1)
theorem RD_rf {n : Nat} {C : Nat → Nat} {B : am_I} {i q s : Nat} {M : Nat → Nat × Nat} {G : am_I} (g : RD n C B i q s M G) : RD n C G i q s M G := by
  obtain ⟨g1, g2, g3, g4, g5, g6, g7, g8, g9⟩ := g
  exact ⟨g1, g2, g3, ⟨fun _ _ _ _ => rfl, fun _ _ _ _ => rfl, fun _ _ => rfl⟩, g5, g6, g7, g8, g9⟩
theorem CS_rb {n : Nat} {C : Nat → Nat} {law : Bool} {B : am_I} {l : List CLD} {mk : Nat → Nat → Nat} {i q s j q' s' : Nat} {M M' : Nat → Nat × Nat} {G G' : am_I} (h : CS n C law B l mk i q s M G) (g : RD n C G j q' s' M' G') (hM : ∀ k, k < s → M' k = M k) (hs : s ≤ s') (hj : s' ≤ j) (hO : ∀ k, s ≤ k → k < s' → okM law k (M' k)) : CS n C law B l mk j q' s' M' G' := by
  obtain ⟨h1, ⟨b1', b2, b3, b4, b5⟩, h3, ⟨t1, t2, t3, t4⟩, h5⟩ := h
  have g4 := g.2.2.2.1
  refine ⟨RD_rf g, ⟨b1', fun k hk => ?_, b3, b4, ?_⟩, frD_C h3 g4, ⟨t1, ?_, fun c cl e => ?_, fun k hk => ?_⟩, hj⟩
  · rw [g4.1 21 (by decide) (by decide) (by decide)]; exact b2 k hk
  · rw [g4.2.1 4 (by decide) (by decide) (by decide)]; exact b5
  · rw [g4.2.2 2 (by decide)]; exact t2
  · obtain ⟨a1, a2, a3, a4, a5, a6, a7⟩ := t3 c cl e
    refine ⟨a1, a2, a3, ?_, ?_, fun i hi => ⟨?_, ?_⟩, pz_cg a7 (fun i hi => (a6 i hi).2) hM (fun _ _ => rfl)⟩
    · rw [g4.1 18 (by decide) (by decide) (by decide)]; exact a4
    · rw [g4.1 19 (by decide) (by decide) (by decide)]; exact a5
    · rw [g4.1 20 (by decide) (by decide) (by decide)]; exact (a6 i hi).1
    · exact Nat.le_trans (a6 i hi).2 hs
  · by_cases z : k < s
    · rw [hM k z]; exact t4 k z
    · exact hO k (by omega) hk
/-- marks -/
theorem l57 {G0 : am_I} {c s m : Nat} {E : Int32 → am_I → Prop} (hc : c < 12) (e2 : G0 16 2 = nI (c + 1)) (e1 : G0 16 1 = nI s) (hE : ∀ v G', (∀ a, a ≠ 20 → G' a = G0 a) → (∀ j, m ≤ j → j < 5 → G' 20 (c * 5 + j) = nI s) → (∀ k, ¬ (c * 5 + m ≤ k ∧ k < c * 5 + 5) → G' 20 k = G0 20 k) → E v G') : ∀ k v G, v + k = 5 → m ≤ v → (∀ a, a ≠ 20 → G a = G0 a) → (∀ j, m ≤ j → j < v → G 20 (c * 5 + j) = nI s) → (∀ k, ¬ (c * 5 + m ≤ k ∧ k < c * 5 + v) → G 20 k = G0 20 k) → lw_57_2 (k + 1) (nI v) G E
  | 0, v, G, hv, hm, h1, h2, h3 => by
    have e : v = 5 := by omega
    subst e
    unfold lw_57_2
    rw [if_pos (show (5 : Int32) ≤ nI 5 from nI_le (a := 5) (by omega) (by omega))]
    exact hE _ G h1 h2 h3
  | k + 1, v, G, hv, hm, h1, h2, h3 => by
    have x0 : ((G 16 2 - 1) * 5 + nI v) = nI (c * 5 + v) := by
      rw [h1 16 (by decide), e2, show (1 : Int32) = nI 1 from rfl, nb_sub (by omega), show (5 : Int32) = nI 5 from rfl, nb_mul, nb_add, Nat.add_sub_cancel]
    unfold lw_57_2
    rw [if_neg (show ¬ (5 : Int32) ≤ nI v from nI_ge (b := 5) (by omega) (by decide)), x0, if_neg (nI_pos (by omega)), if_neg (show ¬ Int32.ofNat 60 ≤ nI (c * 5 + v) from nI_ge (b := 60) (by omega) (by decide))]
    refine ⟨nb_gd (by omega) (by decide), ?_⟩
    rw [nI_clamp (by omega), ← nI_succ, h1 16 (by decide), e1]
    refine l57 hc e2 e1 hE k (v + 1) _ (by omega) (by omega) (fun a ha => ?_) (fun j j1 j2 => ?_) (fun k' hk => ?_)
    · rw [uu_h ha]; exact h1 a ha
    · by_cases ej : j = v
      · rw [ej, uu_e]
      · rw [uu_n (by omega)]; exact h2 j j1 (by omega)
    · rw [uu_n (by omega)]; exact h3 k' (by omega)
theorem q57 {G0 : am_I} {c s m : Nat} {K : am_I → Prop} (hc : c < 12) (hm : m ≤ 5) (e2 : G0 16 2 = nI (c + 1)) (e1 : G0 16 1 = nI s) (hK : ∀ G', (∀ a, a ≠ 20 → G' a = G0 a) → (∀ j, m ≤ j → j < 5 → G' 20 (c * 5 + j) = nI s) → (∀ k, ¬ (c * 5 + m ≤ k ∧ k < c * 5 + 5) → G' 20 k = G0 20 k) → K G') : w_57 (nI m) G0 K := by
  unfold w_57
  exact ⟨5 - m + 1, l57 (m := m) hc e2 e1 (fun _ G' => hK G') (5 - m) m G0 (by omega) (Nat.le_refl _) (fun _ _ => rfl) (fun j a b => by omega) (fun _ _ => rfl)⟩
/-- in the midst of a clause -/
def CO (n : Nat) (C : Nat → Nat) (law : Bool) (B : am_I) (l : List CLD) (kd tm : Nat) (fs : List FN) (i q s : Nat) (M : Nat → Nat × Nat) (G : am_I) : Prop := ∃ mk, CS n C law B (l ++ [(kd, tm, fs, none)]) mk i q s M G ∧ ∀ j, fs.length ≤ j → j < 5 → mk l.length j = s
theorem ln1 {α : Type} (l : List α) (a : α) : (l ++ [a]).length = l.length + 1 := by rw [List.length_append]; rfl
/-- a draft where marks of the last clause alone are others -/
theorem CS_mk {n : Nat} {C : Nat → Nat} {law : Bool} {B : am_I} {l : List CLD} {cl cl' : CLD} {mk : Nat → Nat → Nat} {i q s m : Nat} {M : Nat → Nat × Nat} {G G' : am_I} (h : CS n C law B (l ++ [cl]) mk i q s M G) (e1 : cl'.1 = cl.1) (e2 : cl'.2.1 = cl.2.1) (g1 : ∀ a, a ≠ 20 → G' a = G a) (g2 : ∀ j, m ≤ j → j < 5 → G' 20 (l.length * 5 + j) = nI s) (g3 : ∀ k, ¬ (l.length * 5 + m ≤ k ∧ k < l.length * 5 + 5) → G' 20 k = G 20 k) (p : pz law M cl' (fun j => if m ≤ j then s else mk l.length j)) : CS n C law B (l ++ [cl']) (fun c j => if c = l.length then (if m ≤ j then s else mk l.length j) else mk c j) i q s M G' := by
  obtain ⟨⟨r1, r2, r3, r4, r5, r6, r7, r8, r9⟩, ⟨b1', b2, b3, b4, b5⟩, h3, ⟨t1, t2, t3, t4⟩, h5⟩ := h
  have x14 := g1 14 (by decide)
  have x16 := g1 16 (by decide)
  rw [ln1] at t1 t2
  refine ⟨⟨r1, r2, r3, ⟨fun _ _ _ _ => rfl, fun _ _ _ _ => rfl, fun _ _ => rfl⟩, by rw [x14]; exact r5, by rw [x14]; exact r6, by rw [x14]; exact r7, by rw [x16]; exact r8, fun k hk => by rw [g1 17 (by decide)]; exact r9 k hk⟩, ⟨b1', fun k hk => by rw [g1 21 (by decide)]; exact b2 k hk, b3, b4, by rw [x14]; exact b5⟩, ⟨fun c c1 c2 c3 c4 c5 c6 => by rw [g1 c c6]; exact h3.1 c c1 c2 c3 c4 c5 c6, fun k k1 k2 k3 => by rw [x14]; exact h3.2.1 k k1 k2 k3, fun k k1 k2 => by rw [x16]; exact h3.2.2 k k1 k2⟩, ⟨by rw [ln1]; exact t1, by rw [ln1, x16]; exact t2, fun c x e => ?_, t4⟩, h5⟩
  rcases gix e with ⟨a, b⟩ | ⟨a, b⟩
  · obtain ⟨a1, a2, a3, a4, a5, a6, a7⟩ := t3 c x (by rw [List.getElem?_append_left a]; exact b)
    refine ⟨a1, a2, a3, by rw [g1 18 (by decide)]; exact a4, by rw [g1 19 (by decide)]; exact a5, fun i hi => ?_, pz_cg a7 (fun i hi => (a6 i hi).2) (fun _ _ => rfl) (fun i hi => if_neg (by omega))⟩
    show G' 20 (c * 5 + i) = nI (if c = l.length then (if m ≤ i then s else mk l.length i) else mk c i) ∧ (if c = l.length then (if m ≤ i then s else mk l.length i) else mk c i) ≤ s
    rw [if_neg (by omega), g3 _ (by omega)]
    exact a6 i hi
  · obtain ⟨a1, a2, a3, a4, a5, a6, a7⟩ := t3 l.length cl gixe
    rw [b, a]
    refine ⟨by rw [e1]; exact a1, by rw [e2]; exact a2, by rw [e2]; exact a3, by rw [g1 18 (by decide), e1]; exact a4, by rw [g1 19 (by decide), e2]; exact a5, fun i hi => ?_, ?_⟩
    · show G' 20 (l.length * 5 + i) = nI (if l.length = l.length then (if m ≤ i then s else mk l.length i) else mk l.length i) ∧ (if l.length = l.length then (if m ≤ i then s else mk l.length i) else mk l.length i) ≤ s
      rw [if_pos rfl]
      by_cases c1 : m ≤ i
      · rw [if_pos c1]
        exact ⟨g2 i c1 hi, Nat.le_refl _⟩
      · rw [if_neg c1, g3 _ (by omega)]
        exact a6 i hi
    · have e : (fun j => if l.length = l.length then (if m ≤ j then s else mk l.length j) else mk l.length j) = (fun j => if m ≤ j then s else mk l.length j) := by
        funext j
        rw [if_pos rfl]
      show pz law M cl' (fun j => if l.length = l.length then (if m ≤ j then s else mk l.length j) else mk l.length j)
      rw [e]
      exact p
theorem CS_16 {n : Nat} {C : Nat → Nat} {law : Bool} {B : am_I} {l : List CLD} {cl : CLD} {mk : Nat → Nat → Nat} {i q s : Nat} {M : Nat → Nat × Nat} {G : am_I} (h : CS n C law B (l ++ [cl]) mk i q s M G) : l.length < 12 ∧ G 16 2 = nI (l.length + 1) ∧ G 16 1 = nI s := by
  have t1 := h.2.2.2.1.1
  have t2 := h.2.2.2.1.2.1
  rw [ln1] at t1 t2
  exact ⟨by omega, t2, h.1.2.2.2.2.2.2.2.1⟩
/-- a sum was read: marks from the next on -/
theorem co_s {n : Nat} {C : Nat → Nat} {law : Bool} {B : am_I} {l : List CLD} {kd tm : Nat} {fs : List FN} {i q s j q' s' : Nat} {M M' : Nat → Nat × Nat} {G G1 : am_I} {f : FN} {K : am_I → Prop} (h : CO n C law B l kd tm fs i q s M G) (hl : fs.length < 3) (g : RD n C G j q' s' M' G1) (hM : ∀ k, k < s → M' k = M k) (hs : s' + i ≤ s + j) (p : PC law M' s s' f 20) (hK : ∀ G2, CO n C law B l kd tm (fs ++ [f]) j q' s' M' G2 → K G2) : w_57 (nI (fs.length + 1)) G1 K := by
  obtain ⟨mk, h1, h2⟩ := h
  have s1 := h1.2.2.2.2
  have ps := p.1
  have c1 := CS_rb h1 g hM (by omega) (by omega) p.2.1
  obtain ⟨y1, y2, y3⟩ := CS_16 c1
  refine q57 y1 (by omega) y2 y3 (fun G2 g1 g2 g3 => hK G2 ⟨_, CS_mk (cl' := (kd, tm, fs ++ [f], none)) c1 rfl rfl g1 g2 g3 ?_, fun j' j1 j2 => ?_⟩)
  · have pz0 : pz law M' (kd, tm, fs, none) (mk l.length) := (c1.2.2.2.1.2.2.1 l.length _ gixe).2.2.2.2.2.2
    exact pz_s pz0 hl h2 p
  · rw [ln1] at j1
    show (if l.length = l.length then (if fs.length + 1 ≤ j' then s' else mk l.length j') else mk l.length j') = s'
    rw [if_pos rfl, if_pos j1]
/-- marks where no sum was read -/
theorem co_n {n : Nat} {C : Nat → Nat} {law : Bool} {B : am_I} {l : List CLD} {kd tm m : Nat} {fs : List FN} {i q s : Nat} {M : Nat → Nat × Nat} {G : am_I} {K : am_I → Prop} (h : CO n C law B l kd tm fs i q s M G) (hl : fs.length ≤ m) (hm : m ≤ 5) (hK : ∀ G2, CO n C law B l kd tm fs i q s M G2 → K G2) : w_57 (nI m) G K := by
  obtain ⟨mk, h1, h2⟩ := h
  obtain ⟨y1, y2, y3⟩ := CS_16 h1
  have pz0 : pz law M (kd, tm, fs, none) (mk l.length) := (h1.2.2.2.1.2.2.1 l.length _ gixe).2.2.2.2.2.2
  have a6 := (h1.2.2.2.1.2.2.1 l.length _ gixe).2.2.2.2.2.1
  refine q57 y1 hm y2 y3 (fun G2 g1 g2 g3 => hK G2 ⟨_, CS_mk (cl' := (kd, tm, fs, none)) h1 rfl rfl g1 g2 g3 (pz_cg pz0 (fun i hi => (a6 i hi).2) (fun _ _ => rfl) (fun i hi => ?_)), fun j' j1 j2 => ?_⟩)
  · show (if m ≤ i then s else mk l.length i) = mk l.length i
    by_cases c : m ≤ i
    · rw [if_pos c, h2 i (by omega) hi]
    · rw [if_neg c]
  · show (if l.length = l.length then (if m ≤ j' then s else mk l.length j') else mk l.length j') = s
    rw [if_pos rfl]
    by_cases c : m ≤ j'
    · rw [if_pos c]
    · rw [if_neg c]; exact h2 j' j1 j2
theorem co_rb {n : Nat} {C : Nat → Nat} {law : Bool} {B : am_I} {l : List CLD} {kd tm : Nat} {fs : List FN} {i q s j q' : Nat} {M : Nat → Nat × Nat} {G G1 : am_I} (h : CO n C law B l kd tm fs i q s M G) (g : RD n C G j q' s M G1) (hj : i ≤ j) : CO n C law B l kd tm fs j q' s M G1 := by
  obtain ⟨mk, h1, h2⟩ := h
  have := h1.2.2.2.2
  exact ⟨mk, CS_rb h1 g (fun _ _ => rfl) (Nat.le_refl _) (by omega) (fun k k1 k2 => by omega), h2⟩
/-- 'if' -/
theorem q67 {n : Nat} {C : Nat → Nat} {law : Bool} {B : am_I} {l : List CLD} {kd tm : Nat} {fs : List FN} {i q s : Nat} {M : Nat → Nat × Nat} {G : am_I} {K : Int32 → am_I → Prop} (h : CO n C law B l kd tm fs i q s M G) (hf : fs.length ≤ 3) (hF : ∀ j, ifP C law (kd, tm, fs, none) i q = (j, none) → ∀ G', CF n B j G' → K 0 G') (hS : ∀ j q' c, ifP C law (kd, tm, fs, none) i q = (j, some (q', c)) → ∀ mk s' M' G', CS n C law B (l ++ [c]) mk j q' s' M' G' → K 1 G') : w_67 G K := by
  obtain ⟨mk, h1, h2⟩ := h
  have s1 := h1.2.2.2.2
  unfold w_67
  refine q62 (x := 1000008) h1.2.1 h1.1 (by decide) (fun c => ?_) (fun c il G1 g1 => ?_)
  · refine am_ifp rfl (hS i q (kd, tm, fs, none) ?_ mk s M G h1)
    unfold ifP
    rw [if_neg c]
  · refine am_ifn (by decide) ?_
    have ep : ifP C law (kd, tm, fs, none) i q = bd (tsD C law 8 (i + 1) q) (fun j y => (j, some (y.1, (kd, tm, fs, some y.2)))) := by
      unfold ifP
      rw [if_pos c]
    refine cx68 h1.2.1 (i + 1) q s M G1 _ (by omega) g1 (fun j e G2 g2 => ?_) (fun j q' f e s' M' G2 g2 m2 l2 p2 => ?_)
    · exact am_ifp rfl (hF j (by rw [ep, e]; rfl) G2 (CF_of h1.2.2.1 g2))
    · refine am_ifn (by decide) ?_
      have ps := p2.1
      have c1 := CS_rb h1 g2 m2 (by omega) (by omega) p2.2.1
      obtain ⟨y1, y2, y3⟩ := CS_16 c1
      refine q57 (m := 4) y1 (by decide) y2 y3 (fun G3 g3 g4 g5 => hS j q' (kd, tm, fs, some f) (by rw [ep, e]; rfl) _ s' M' G3 (CS_mk (cl' := (kd, tm, fs, some f)) c1 rfl rfl g3 g4 g5 ?_))
      have pz0 : pz law M' (kd, tm, fs, none) (mk l.length) := (c1.2.2.2.1.2.2.1 l.length _ gixe).2.2.2.2.2.2
      exact pz_t pz0 (h2 3 hf (by decide)) p2
