/-! the reference reads a text -/
theorem st37 {x : TX} {RW : RWT} {B : am_I} {LB : am_J} {CL : Nat → Nat → Rc} {w : am_I → am_J → (am_I → am_J → Prop) → Prop} {E Q : am_I → am_J → Prop} {Y : Nat × Option (List CLD)} {l : List CLD} {mk : Nat → Nat → Nat} {k i q s : Nat} {M : Nat → Nat × Nat} {G : am_I} {H : am_J} (hR : RWo RW) (hw : RCL x RW B LB CL w) (h : RS x RW B LB l mk i q s M G H) (hk : l.length + k = 12) (hY : Y = rsP (xC x) CL l k i q) (hE : ∀ l mk i q s M G H, RS x RW B LB l mk i q s M G H → (xC x i = 3000000 → Y = (i, some l)) → (xC x i ≠ 3000000 → Y = (i, none)) → E G H) (hQb : ∀ j G' H', RBs x B LB j G' H' → Y = (j, none) → Q G' H') (hQs : ∀ l' mk j q' s' M' G' H' k', l'.length + k' = 12 → k' + 1 = k → RS x RW B LB l' mk j q' s' M' G' H' → Y = rsP (xC x) CL l' k' j q' → Q G' H') : if G 66 19 = 0 then (if f_216 59 G H = 0 then E G H else w_207 G H (fun I L => w I L Q)) else E G H := by
  have h0 := h
  obtain ⟨hx, hp, hf, hl, h21, ht⟩ := h
  rw [hp.2.2.2.1, show f_216 59 G H = b1 (decide (xC x i = 2000000 + 59)) from f216 (x := rb x G H) (ch := 59) hp.1 (by decide) rfl]
  refine am_ifp rfl (ifd (fun c => ?_) (fun c => ?_))
  · refine hE l mk i q s M G H h0 (fun e => ?_) (fun e => ?_)
    · rw [hY]
      unfold rsP
      rw [if_pos e]
    · rw [hY]
      unfold rsP
      rw [if_neg e, if_neg c]
  · have c : xC x i = 2000059 := c
    have il := (RP_c hx hp).2.2.1 (by show xC x i ≠ 3000000; omega)
    refine qnxP hx hp il (fun G1 H1 g1 => ?_)
    have h1 := RS_rb hR h0 g1 (fun _ _ => rfl) (Nat.le_refl _) (fun k k1 k2 => by omega)
    refine hw l mk (i + 1) q s M G1 H1 Q h1 (fun j e1 e2 G2 H2 g2 => hQb j G2 H2 g2 ?_) (fun hl2 j q' c' e mk' s' M' G2 H2 g2 => ?_)
    · rw [hY]
      cases k with
      | zero => rw [rsP_0 c, e2 (by omega)]
      | succ k => exact rsP_f c (e1 (by omega))
    · obtain ⟨k', rfl⟩ : ∃ k', k = k' + 1 := ⟨k - 1, by omega⟩
      exact hQs (l ++ [c']) mk' j q' s' M' G2 H2 k' (by rw [ln1]; omega) rfl g2 (by rw [hY]; exact rsP_s c e)
theorem l37 {x : TX} {RW : RWT} {B : am_I} {LB : am_J} {CL : Nat → Nat → Rc} {w : am_I → am_J → (am_I → am_J → Prop) → Prop} {lw : Nat → am_I → am_J → (am_I → am_J → Prop) → Prop} {E : am_I → am_J → Prop} {Y : Nat × Option (List CLD)} (hR : RWo RW) (hw : RCL x RW B LB CL w) (hlw : ∀ n G H E, (if G 66 19 = 0 then (if f_216 59 G H = 0 then E G H else w_207 G H (fun I L => w I L (fun I' L' => lw n I' L' E))) else E G H) → lw (n + 1) G H E) (hE : ∀ l mk i q s M G H, RS x RW B LB l mk i q s M G H → (xC x i = 3000000 → Y = (i, some l)) → (xC x i ≠ 3000000 → Y = (i, none)) → E G H) (hEb : ∀ j G' H', RBs x B LB j G' H' → Y = (j, none) → E G' H') : ∀ k l mk i q s M G H, l.length + k = 12 → RS x RW B LB l mk i q s M G H → Y = rsP (xC x) CL l k i q → lw (k + 2) G H E := by
  intro k
  induction k with
  | zero =>
    intro l mk i q s M G H hk h hY
    exact hlw 1 G H E (st37 (Q := fun I' L' => lw 1 I' L' E) hR hw h hk hY hE (fun j G' H' g e => hlw 0 G' H' E (by rw [g.2.1]; exact am_ifn (by decide) (hEb j G' H' g e))) (fun l' mk j q' s' M' G' H' k' a1 a2 g e => by omega))
  | succ k ih =>
    intro l mk i q s M G H hk h hY
    refine hlw (k + 2) G H E (st37 (Q := fun I' L' => lw (k + 2) I' L' E) hR hw h hk hY hE (fun j G' H' g e => hlw (k + 1) G' H' E (by rw [g.2.1]; exact am_ifn (by decide) (hEb j G' H' g e))) (fun l' mk j q' s' M' G' H' k' a1 a2 g e => ?_))
    have ek : k' = k := by omega
    rw [ek] at a1 e
    exact ih l' mk j q' s' M' G' H' a1 g e
theorem txP_s {C : Nat → Nat} {CL : Nat → Nat → Rc} {k i q j q' : Nat} {c : CLD} (e : CL i q = (j, some (q', c))) : txP C CL (k + 1) i q = rsP C CL [c] k j q' := by
  show bd (CL i q) _ = _
  rw [e]
  rfl
theorem txP_f {C : Nat → Nat} {CL : Nat → Nat → Rc} {k i q j : Nat} (e : CL i q = (j, none)) : txP C CL (k + 1) i q = (j, none) := by
  show bd (CL i q) _ = _
  rw [e]
  rfl
theorem q230b {x : TX} {B : am_I} {LB : am_J} {j : Nat} {G : am_I} {H : am_J} {K : am_I → am_J → Prop} (h : RBs x B LB j G H) (hK : K (am_u (am_u G 66 20 0) 66 13 0) H) : w_230 G H K := by
  unfold w_230
  rw [h.2.1]
  exact am_ifn (by decide) hK
theorem q230 {x : TX} {RW : RWT} {B : am_I} {LB : am_J} {Y : Nat × Option (List CLD)} {K : am_I → am_J → Prop} {l : List CLD} {mk : Nat → Nat → Nat} {i q s : Nat} {M : Nat → Nat × Nat} {G : am_I} {H : am_J} (h : RS x RW B LB l mk i q s M G H) (e1 : xC x i = 3000000 → Y = (i, some l)) (e2 : xC x i ≠ 3000000 → Y = (i, none)) (hb : ∀ j G' H', RBs x B LB j G' H' → Y = (j, none) → K (am_u (am_u G' 66 20 0) 66 13 0) H') (hs : Y = (i, some l) → K (am_u (am_u G 66 20 0) 66 13 0) H) : w_230 G H K := by
  obtain ⟨hx, hp, hf, hl, h21, ht⟩ := h
  have e16 : G 66 16 = nI (kdT (xC x i)) := hp.1.2.2.1
  have cl : xC x i ≤ 3000000 := (RP_c hx hp).1
  unfold w_230
  rw [hp.2.2.2.1, e16]
  refine am_ifp rfl ?_
  by_cases c : xC x i = 3000000
  · refine am_ifp ?_ (hs (e1 c))
    rw [c]
    rfl
  · refine am_ifn ?_ (q212fP hf hp (fun G1 g1 => hb i G1 H g1 (e2 c)))
    unfold kdT
    by_cases c1 : xC x i < 1000000
    · rw [if_pos c1]; decide
    · rw [if_neg c1]
      by_cases c2 : xC x i < 2000000
      · rw [if_pos c2]; decide
      · rw [if_neg c2, if_pos (by omega)]; decide
/-- what a reading may change, in the reference -/
def frV (I G : am_I) (L H : am_J) : Prop := (∀ c, c ≠ 66 → c ≠ 76 → c ≠ 77 → c ≠ 78 → c ≠ 79 → c ≠ 80 → c ≠ 97 → G c = I c) ∧ (∀ k, ¬ s66 k → k ≠ 18 → k ≠ 20 → k ≠ 21 → G 66 k = I 66 k) ∧ (∀ c, c ≠ 66 → H c = L c) ∧ ∀ k, k ≠ 17 → H 66 k = L 66 k
theorem frV_S {I G G' : am_I} {L H H' : am_J} (h : frV I G L H) (g : frSx G G' H H') : frV I G' L H' := ⟨fun c c1 c2 c3 c4 c5 c6 c7 => (g.1 c c1 c2 c3 c4 c5 c6 c7).trans (h.1 c c1 c2 c3 c4 c5 c6 c7), fun k k1 k0 k2 k3 => (g.2.1 k k1 k3).trans (h.2.1 k k1 k0 k2 k3), fun c hc => (g.2.2.1 c hc).trans (h.2.2.1 c hc), fun k hk => (g.2.2.2 k hk).trans (h.2.2.2 k hk)⟩
theorem frV_b {I G G' : am_I} {L H H' : am_J} (h : frV I G L H) (g : frSb G G' H H') : frV I G' L H' := ⟨fun c c1 c2 c3 c4 c5 c6 c7 => (g.1 c c1 c2 c3 c4 c5 c6 c7).trans (h.1 c c1 c2 c3 c4 c5 c6 c7), fun k k1 k0 k2 k3 => (g.2.1 k k1 k0 k3).trans (h.2.1 k k1 k0 k2 k3), fun c hc => (g.2.2.1 c hc).trans (h.2.2.1 c hc), fun k hk => (g.2.2.2 k hk).trans (h.2.2.2 k hk)⟩
theorem q205 {I : am_I} {L : am_J} {b : Nat → Nat} {z : Nat} {R : List (Nat × Nat)} {C S : Nat → Nat} {law : Bool} {RW : RWT} {x0 : Int32} {K : am_I → am_J → Prop} (ts : TS b z R C S) (hB : BYr I b z) (hL : LWr L) (ex : x0 = b1 (!law)) (hK : ∀ G H, frV I G L H → G 66 18 = -1 → RS (b, z, R, C, S, law, G, H) RW G H [] (fun _ _ => 0) 0 0 0 (fun _ => (0, 0)) G H → K G H) : w_205 x0 I L K := by
  unfold w_205
  refine ⟨by rw [ex]; cases law <;> decide, ?_⟩
  unfold w_206
  refine q207n (j := 0) (p := 0) ts ⟨hB.1, ?_, fun k hk => ?_⟩ (Nat.zero_le _) (Nat.zero_le _) ?_ ts.2.2.2.1 (fun G' H' hf ht => ?_)
  · rw [uu_n (by decide), uu_n (by decide), uu_n (by decide), uu_n (by decide)]; exact hB.2.1
  · rw [uu_c (by decide), uu_c (by decide), uu_c (by decide), uu_c (by decide)]; exact hB.2.2 k hk
  · rw [uu_n (by decide), uu_n (by decide), uu_e]; rfl
  · have e66 : ∀ k, k ≠ 14 → k ≠ 15 → k ≠ 16 → k ≠ 18 → k ≠ 19 → k ≠ 20 → G' 66 k = I 66 k := fun k k1 k2 k3 k4 k5 k6 => by rw [hf.2.1 k k1 k2 k3, uu_n k4, uu_n k5, uu_n k2, uu_n k6]
    have e0 : ∀ c, c ≠ 66 → G' c = I c := fun c hc => by rw [hf.1 c hc, uu_h hc, uu_h hc, uu_h hc, uu_h hc]
    refine hK _ H' ⟨fun c c1 _ _ _ _ _ _ => ?_, fun k k1 k0 k2 k3 => ?_, hf.2.2.1, hf.2.2.2⟩ (by rw [uu_n (by decide), uu_n (by decide), uu_n (by decide), hf.2.1 18 (by decide) (by decide) (by decide), uu_e]) ⟨⟨ts, ⟨hB.1, ?_, fun k hk => ?_⟩, ?_, ?_, ?_, ?_⟩, ⟨RTk_cg (x := (b, z, R, C, S, law, G', H')) ht (fun k k1 k2 => ?_), ⟨fun _ _ _ _ _ _ => rfl, fun _ _ => rfl, fun _ _ => rfl, fun _ _ => rfl⟩, by decide, ?_, uu_e, ?_, fun k hk => absurd hk (Nat.not_lt_zero _), Nat.le_refl _, by decide⟩, ⟨fun _ _ _ _ _ _ _ _ => rfl, fun _ _ _ => rfl, fun _ _ => rfl, fun _ _ => rfl⟩, by show 0 ≤ 12; decide, ?_, fun c cl e => absurd (gixl e) (Nat.not_lt_zero _), fun k hk => absurd hk (Nat.not_lt_zero _)⟩
    · rw [uu_h c1, uu_h c1, uu_h c1]; exact e0 c c1
    · unfold s66 at k1
      rw [uu_n (by omega), uu_n (by omega), uu_n (by omega)]
      exact e66 k (by omega) (by omega) (by omega) (by omega) (by omega) (by omega)
    · show am_u (am_u (am_u G' 66 21 0) 66 23 0) 66 26 0 66 13 = nI z
      rw [uu_n (by decide), uu_n (by decide), uu_n (by decide), e66 13 (by decide) (by decide) (by decide) (by decide) (by decide) (by decide)]; exact hB.2.1
    · show b k < 256 ∧ am_u (am_u (am_u G' 66 21 0) 66 23 0) 66 26 0 75 k = nI (b k)
      rw [uu_c (by decide), uu_c (by decide), uu_c (by decide), e0 75 (by decide)]; exact hB.2.2 k hk
    · show am_u (am_u (am_u G' 66 21 0) 66 23 0) 66 26 0 66 20 = b1 (!law)
      rw [uu_n (by decide), uu_n (by decide), uu_n (by decide), hf.2.1 20 (by decide) (by decide) (by decide), uu_n (by decide), uu_n (by decide), uu_n (by decide), uu_e]; exact ex
    · show H' 81 = hl_62 81
      rw [hf.2.2.1 81 (by decide)]; exact hL.1
    · show H' 82 = hl_62 82
      rw [hf.2.2.1 82 (by decide)]; exact hL.2.1
    · show H' 83 = hl_62 83
      rw [hf.2.2.1 83 (by decide)]; exact hL.2.2
    · rw [uu_n (by omega), uu_n (by omega), uu_n (by omega)]
    · rw [uu_n (by decide), uu_n (by decide), uu_n (by decide), hf.2.1 19 (by decide) (by decide) (by decide), uu_n (by decide), uu_e]
    · rw [uu_n (by decide), uu_e]; rfl
    · rw [uu_n (by decide), uu_n (by decide), uu_e]; rfl
