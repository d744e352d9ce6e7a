/-! the reference reads clauses: its state -/
def rb (x : TX) (G : am_I) (H : am_J) : TX := (xb x, xz x, xR x, xC x, xS x, xw x, G, H)
def frSx (B G : am_I) (LB H : am_J) : Prop := (∀ c, c ≠ 66 → c ≠ 76 → c ≠ 77 → c ≠ 78 → c ≠ 79 → c ≠ 80 → c ≠ 97 → G c = B c) ∧ (∀ k, ¬ s66 k → k ≠ 21 → G 66 k = B 66 k) ∧ (∀ c, c ≠ 66 → H c = LB c) ∧ ∀ k, k ≠ 17 → H 66 k = LB 66 k
theorem frSx_R {B G G' : am_I} {LB H H' : am_J} (h : frSx B G LB H) (g : frRx G G' H H') : frSx B G' LB H' := ⟨fun c c1 c2 c3 c4 c5 c6 c7 => (g.1 c c1 c3 c4 c5 c6).trans (h.1 c c1 c2 c3 c4 c5 c6 c7), fun k k1 k2 => (g.2.1 k k1).trans (h.2.1 k k1 k2), fun c hc => (g.2.2.1 c hc).trans (h.2.2.1 c hc), fun k hk => (g.2.2.2 k hk).trans (h.2.2.2 k hk)⟩
theorem frSx_w {B G G' : am_I} {LB H : am_J} (h : frSx B G LB H) (e : ∀ c, c ≠ 66 → c ≠ 76 → c ≠ 97 → G' c = G c) (e6 : ∀ k, k ≠ 21 → G' 66 k = G 66 k) : frSx B G' LB H := ⟨fun c c1 c2 c3 c4 c5 c6 c7 => (e c c1 c2 c7).trans (h.1 c c1 c2 c3 c4 c5 c6 c7), fun k k1 k2 => (e6 k k2).trans (h.2.1 k k1 k2), h.2.2⟩
def frSb (B G : am_I) (LB H : am_J) : Prop := (∀ c, c ≠ 66 → c ≠ 76 → c ≠ 77 → c ≠ 78 → c ≠ 79 → c ≠ 80 → c ≠ 97 → G c = B c) ∧ (∀ k, ¬ s66 k → k ≠ 18 → k ≠ 21 → G 66 k = B 66 k) ∧ (∀ c, c ≠ 66 → H c = LB c) ∧ ∀ k, k ≠ 17 → H 66 k = LB 66 k
theorem frSb_R {B G G' : am_I} {LB H H' : am_J} (h : frSx B G LB H) (g : frRb G G' H H') : frSb B G' LB H' := ⟨fun c c1 c2 c3 c4 c5 c6 c7 => (g.1 c c1 c3 c4 c5 c6).trans (h.1 c c1 c2 c3 c4 c5 c6 c7), fun k k1 k2 k3 => (g.2.1 k k1 k2).trans (h.2.1 k k1 k3), fun c hc => (g.2.2.1 c hc).trans (h.2.2.1 c hc), fun k hk => (g.2.2.2 k hk).trans (h.2.2.2 k hk)⟩
theorem frSb_w {B G G' : am_I} {LB H : am_J} (h : frSb B G LB H) (e : ∀ c, c ≠ 66 → c ≠ 76 → c ≠ 97 → G' c = G c) (e6 : ∀ k, k ≠ 21 → G' 66 k = G 66 k) : frSb B G' LB H := ⟨fun c c1 c2 c3 c4 c5 c6 c7 => (e c c1 c2 c7).trans (h.1 c c1 c2 c3 c4 c5 c6 c7), fun k k1 k2 k3 => (e6 k k3).trans (h.2.1 k k1 k2 k3), h.2.2⟩
/-- it failed at token j -/
def RBs (x : TX) (B : am_I) (LB : am_J) (j : Nat) (G : am_I) (H : am_J) : Prop := frSb B G LB H ∧ G 66 19 = 1 ∧ G 66 18 = nI (xS x j) ∧ j ≤ (xR x).length
theorem RBs_of {x : TX} {B G0 G : am_I} {LB H0 H : am_J} {j : Nat} (h : frSx B G0 LB H0) (g : RB (rb x G0 H0) j G H) : RBs x B LB j G H := ⟨frSb_R h g.1, g.2.1, g.2.2.1, g.2.2.2.1⟩
theorem RBs_w {x : TX} {B G G' : am_I} {LB H : am_J} {j : Nat} (h : RBs x B LB j G H) (e : ∀ c, c ≠ 66 → c ≠ 76 → c ≠ 97 → G' c = G c) (e6 : ∀ k, k ≠ 21 → G' 66 k = G 66 k) : RBs x B LB j G' H := ⟨frSb_w h.1 e e6, (e6 19 (by decide)).trans h.2.1, (e6 18 (by decide)).trans h.2.2.1, h.2.2.2⟩
theorem rb_ok {x : TX} {i q s : Nat} {M : Nat → Nat × Nat} {G : am_I} {H : am_J} (hx : XOK x) (h : RP x i q s M G H) : XOK (rb x G H) ∧ RP (rb x G H) i q s M G H := by
  obtain ⟨t, f1, h3⟩ := h
  obtain ⟨x1, x2, x3, x4⟩ := hx
  refine ⟨⟨x1, ⟨x2.1, ?_, fun k hk => ?_⟩, ?_, ?_, ?_, ?_⟩, t, ⟨fun _ _ _ _ _ _ => rfl, fun _ _ => rfl, fun _ _ => rfl, fun _ _ => rfl⟩, h3⟩
  · show G 66 13 = nI (xz x)
    rw [f1.2.1 13 (by unfold s66; omega)]; exact x2.2.1
  · show xb x k < 256 ∧ G 75 k = nI (xb x k)
    rw [f1.1 75 (by decide) (by decide) (by decide) (by decide) (by decide)]; exact x2.2.2 k hk
  · show G 66 20 = b1 (!(xw x))
    rw [f1.2.1 20 (by unfold s66; omega)]; exact x3
  · show H 81 = hl_62 81
    rw [f1.2.2.1 81 (by decide)]; exact x4.1
  · show H 82 = hl_62 82
    rw [f1.2.2.1 82 (by decide)]; exact x4.2.1
  · show H 83 = hl_62 83
    rw [f1.2.2.1 83 (by decide)]; exact x4.2.2
theorem rb_w {x : TX} {i q s : Nat} {M : Nat → Nat × Nat} {G G' : am_I} {H : am_J} (hx : XOK (rb x G H)) (h : RP (rb x G H) i q s M G H) (e : ∀ c, c ≠ 66 → c ≠ 76 → c ≠ 97 → G' c = G c) (e6 : ∀ k, k ≠ 21 → G' 66 k = G 66 k) : XOK (rb x G' H) ∧ RP (rb x G' H) i q s M G' H := by
  obtain ⟨t, f1, h3, h4, h5, h6, h7, h8⟩ := h
  obtain ⟨x1, x2, x3, x4⟩ := hx
  refine ⟨⟨x1, ⟨x2.1, ?_, fun k hk => ?_⟩, ?_, x4⟩, RTk_cg (x := rb x G' H) t (fun k k1 k2 => e6 k (by omega)), ⟨fun _ _ _ _ _ _ => rfl, fun _ _ => rfl, fun _ _ => rfl, fun _ _ => rfl⟩, h3, (e6 19 (by decide)).trans h4, (e6 26 (by decide)).trans h5, (e6 23 (by decide)).trans h6, fun k hk => ?_, h8⟩
  · exact (e6 13 (by decide)).trans x2.2.1
  · show xb x k < 256 ∧ G' 75 k = nI (xb x k)
    rw [e 75 (by decide) (by decide) (by decide)]; exact x2.2.2 k hk
  · exact (e6 20 (by decide)).trans x3
  · rw [e 77 (by decide) (by decide) (by decide), e 78 (by decide) (by decide) (by decide)]; exact h7 k hk
theorem RP_c {x : TX} {i q s : Nat} {M : Nat → Nat × Nat} {G : am_I} {H : am_J} (hx : XOK x) (h : RP x i q s M G H) : xC x i ≤ 3000000 ∧ i ≤ (xR x).length ∧ (xC x i ≠ 3000000 → i < (xR x).length) ∧ (xR x).length ≤ 400 := by
  have hi := h.1.1
  refine ⟨(TS_le hx.1 i hi).2, hi, fun c => ?_, hx.1.2.1⟩
  by_cases e : i = (xR x).length
  · exact absurd (by rw [e]; exact hx.1.2.2.2.2.2.2) c
  · omega
theorem qnxP {x : TX} {i q s : Nat} {M : Nat → Nat × Nat} {G : am_I} {H : am_J} {K : am_I → am_J → Prop} (hx : XOK x) (h : RP x i q s M G H) (hi : i < (xR x).length) (hK : ∀ G' H', RP x (i + 1) q s M G' H' → K G' H') : w_207 G H K := by
  obtain ⟨⟨t1, t2, t3, t4, p, t5, t6, t7⟩, f1, h3, h4, h5, h6, h7, h8, h9⟩ := h
  obtain ⟨x1, x2, x3, x4⟩ := hx
  have l4 : (xR x).length ≤ 400 := x1.2.1
  have by' : BYr G (xb x) (xz x) := ⟨x2.1, by rw [f1.2.1 13 (by unfold s66; omega)]; exact x2.2.1, fun k hk => by rw [f1.1 75 (by decide) (by decide) (by decide) (by decide) (by decide)]; exact x2.2.2 k hk⟩
  refine q207n x1 by' (by omega) t5 t6 t7 (fun G' H' hf ht => hK G' H' ⟨ht, ⟨fun c c1 c2 c3 c4 c5 => ?_, fun k hk => ?_, fun c hc => ?_, fun k hk => ?_⟩, h3, ?_, ?_, ?_, fun k hk => ?_, by omega, by omega⟩)
  · rw [hf.1 c c1]; exact f1.1 c c1 c2 c3 c4 c5
  · rw [hf.2.1 k (by unfold s66 at hk; omega) (by unfold s66 at hk; omega) (by unfold s66 at hk; omega)]; exact f1.2.1 k hk
  · rw [hf.2.2.1 c hc]; exact f1.2.2.1 c hc
  · rw [hf.2.2.2 k hk]; exact f1.2.2.2 k hk
  · rw [hf.2.1 19 (by decide) (by decide) (by decide)]; exact h4
  · rw [hf.2.1 26 (by decide) (by decide) (by decide)]; exact h5
  · rw [hf.2.1 23 (by decide) (by decide) (by decide)]; exact h6
  · rw [hf.1 77 (by decide), hf.1 78 (by decide)]; exact h7 k hk
theorem q212fP {x : TX} {i q s : Nat} {M : Nat → Nat × Nat} {B G : am_I} {LB H : am_J} {K : am_I → am_J → Prop} (hB : frSx B G LB H) (h : RP (rb x G H) i q s M G H) (hK : ∀ G', RBs x B LB i G' H → K G' H) : w_212 0 G H K := by
  unfold w_212
  rw [h.2.2.2.1, if_pos rfl, if_pos rfl]
  refine am_ifn (by decide) ?_
  refine hK _ ⟨⟨fun c c1 c2 c3 c4 c5 c6 c7 => ?_, fun k hk k18 k1 => ?_, hB.2.2.1, hB.2.2.2⟩, ?_, ?_, h.1.1⟩
  · rw [uu_h c1, uu_h c1]; exact hB.1 c c1 c2 c3 c4 c5 c6 c7
  · rw [uu_n (by unfold s66 at hk; omega), uu_n (by unfold s66 at hk; omega)]; exact hB.2.1 k hk k1
  · rw [uu_n (by decide), uu_e]
  · rw [uu_e]; exact h.1.2.1
/-- rows of clauses -/
abbrev RWT : Type := am_I → Nat → CLD → (Nat → Nat) → Prop
def RWo (RW : RWT) : Prop := ∀ G G' c cl m, G' 76 = G 76 → G' 97 = G 97 → RW G c cl m → RW G' c cl m
def TXr (RW : RWT) (law : Bool) (l : List CLD) (s : Nat) (M : Nat → Nat × Nat) (mk : Nat → Nat → Nat) (G : am_I) : Prop := (∀ c cl, l[c]? = some cl → RW G c cl (mk c) ∧ (∀ i, i < 5 → mk c i ≤ s) ∧ pz law M cl (mk c)) ∧ ∀ k, k < s → okM law k (M k)
def RS (x : TX) (RW : RWT) (B : am_I) (LB : am_J) (l : List CLD) (mk : Nat → Nat → Nat) (i q s : Nat) (M : Nat → Nat × Nat) (G : am_I) (H : am_J) : Prop := XOK (rb x G H) ∧ RP (rb x G H) i q s M G H ∧ frSx B G LB H ∧ l.length ≤ 12 ∧ G 66 21 = nI l.length ∧ TXr RW (xw x) l s M mk G
theorem TXr_rb {RW : RWT} {law : Bool} {l : List CLD} {s s' : Nat} {M M' : Nat → Nat × Nat} {mk : Nat → Nat → Nat} {G G' : am_I} (hR : RWo RW) (h : TXr RW law l s M mk G) (e1 : G' 76 = G 76) (e2 : G' 97 = G 97) (hM : ∀ k, k < s → M' k = M k) (hs : s ≤ s') (hO : ∀ k, s ≤ k → k < s' → okM law k (M' k)) : TXr RW law l s' M' mk G' := by
  refine ⟨fun c cl e => ?_, fun k hk => ?_⟩
  rotate_left
  · by_cases z : k < s
    · rw [hM k z]; exact h.2 k z
    · exact hO k (by omega) hk
  obtain ⟨a1, a2, a3⟩ := h.1 c cl e
  exact ⟨hR G G' c cl _ e1 e2 a1, fun i hi => Nat.le_trans (a2 i hi) hs, pz_cg a3 a2 hM (fun _ _ => rfl)⟩
theorem RS_rb {x : TX} {RW : RWT} {B : am_I} {LB : am_J} {l : List CLD} {mk : Nat → Nat → Nat} {i q s j q' s' : Nat} {M M' : Nat → Nat × Nat} {G G' : am_I} {H H' : am_J} (hR : RWo RW) (h : RS x RW B LB l mk i q s M G H) (g : RP (rb x G H) j q' s' M' G' H') (hM : ∀ k, k < s → M' k = M k) (hs : s ≤ s') (hO : ∀ k, s ≤ k → k < s' → okM (xw x) k (M' k)) : RS x RW B LB l mk j q' s' M' G' H' := by
  obtain ⟨h1, h2, h3, h4, h5, h6⟩ := h
  have f := g.2.1
  obtain ⟨y1, y2⟩ := rb_ok h1 g
  exact ⟨y1, y2, frSx_R h3 f, h4, (f.2.1 21 (by unfold s66; omega)).trans h5, TXr_rb hR h6 (f.1 76 (by decide) (by decide) (by decide) (by decide) (by decide)) (f.1 97 (by decide) (by decide) (by decide) (by decide) (by decide)) hM hs hO⟩
