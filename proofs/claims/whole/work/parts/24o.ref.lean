/-! the reference reads: a whole sum, a whole test -/
/-- at token i, nothing piled that counts -/
def RP (x : TX) (i q s : Nat) (M : Nat → Nat × Nat) (G : am_I) (H : am_J) : Prop := RTk (xb x) (xz x) (xR x) (xC x) (xS x) i G H ∧ frRx (xB x) G (xL x) H ∧ q ≤ 50 ∧ G 66 19 = 0 ∧ G 66 26 = nI q ∧ G 66 23 = nI s ∧ CDr (xw x) G M s ∧ s ≤ i ∧ i ≤ 400
theorem RR_RP {x : TX} {i q s : Nat} {M : Nat → Nat × Nat} {G : am_I} {H : am_J} (h : RR x i i q s M [] G H) : RP x i q s M G H := by
  obtain ⟨t, f1, h3, h4, h5, h6, h7, h8, h9, h10, h11, h12, h13⟩ := h
  have w0 : wtP ([] : List (Nat × Nat)) = 0 := rfl
  exact ⟨t, f1, h3, h4, h5, h8.1, h9, by omega, h13⟩
theorem RP_RR {x : TX} {i q s : Nat} {M : Nat → Nat × Nat} {G : am_I} {H : am_J} (h : RP x i q s M G H) : RR x i i q s M [] (am_u (am_u G 66 29 0) 66 30 0) H := by
  obtain ⟨t, f1, h3, h4, h5, h6, h7, h8, h9⟩ := h
  have w0 : wtP ([] : List (Nat × Nat)) = 0 := rfl
  have b0 : brk ([] : List (Nat × Nat)) = 0 := rfl
  have l0 : ([] : List (Nat × Nat)).length = 0 := rfl
  refine ⟨RTk_cg t (fun k k1 k2 => ?_), ⟨fun c c1 c2 c3 c4 c5 => ?_, fun k hk => ?_, f1.2.2.1, f1.2.2.2⟩, h3, ?_, ?_, uu_e, by omega, ⟨?_, ?_, trivial, by omega, by omega, fun y hy => absurd hy (by simp)⟩, fun k hk => ?_, fun y hy => absurd hy (by simp), by omega, by omega, h9⟩
  · rw [uu_n (by omega), uu_n (by omega)]
  · rw [uu_h c1, uu_h c1]; exact f1.1 c c1 c2 c3 c4 c5
  · rw [uu_n (by unfold s66 at hk; omega), uu_n (by unfold s66 at hk; omega)]; exact f1.2.1 k hk
  · rw [uu_n (by decide), uu_n (by decide)]; exact h4
  · rw [uu_n (by decide), uu_n (by decide)]; exact h5
  · rw [uu_n (by decide), uu_n (by decide)]; exact h6
  · rw [uu_n (by decide), uu_e]; rfl
  · rw [uu_c (by decide), uu_c (by decide), uu_c (by decide), uu_c (by decide)]; exact h7 k hk
theorem lw4 {u : Nat} {x0 : Int32} {G : am_I} {H : am_J} {E : Int32 → am_I → am_J → Prop} (h19 : G 66 19 = 0) (h : E 4 G H) : lw_213_20 (u + 1) x0 4 G H E := by
  unfold lw_213_20
  rw [h19, if_pos rfl, if_pos rfl]
  exact h
theorem q213s {x : TX} {i q s : Nat} {M : Nat → Nat × Nat} {G : am_I} {H : am_J} {K : am_I → am_J → Prop} (hx : XOK x) (h : RP x i q s M G H) (k0 : ∀ j, smD (xC x) (xw x) 8 i q = (j, none) → ∀ G' H', RB x j G' H' → K G' H') (k1 : ∀ j q' f, smD (xC x) (xw x) 8 i q = (j, some (q', f)) → ∀ s' M' G' H', RP x j q' s' M' G' H' → (∀ k, k < s → M' k = M k) → PC (xw x) M' s s' f 20 → K G' H') : w_213 0 G H K := by
  unfold w_213
  rw [if_pos rfl]
  have g := RP_RR h
  have r2 := (RR_c hx g).2.1
  refine ⟨_, rt_sm (x0 := 0) hx 8 i q s M [] (fun _ I14 L15 => w_226 1 I14 (fun I16 => K I16 L15)) trivial rfl trivial (fun j e t G' H' r => ?_) (fun j q' f e => ?_) _ (Nat.le_refl _) 1 _ H ⟨rfl, g⟩⟩
  · exact q226b (lvl := 1) r (by decide) (by decide) (fun G2 r2 => k0 j e G2 H' r2)
  · have a3 := (smD_adv (law := xw x) (XTN hx) 8 i q j (q', f) r2 e).2.2
    intro u uu t G2 H2 st
    obtain ⟨et, A, M2, s2, g1, g2, g3, g4⟩ := st
    obtain ⟨u', rfl⟩ : ∃ u', u = u' + 2 := ⟨u - 2, by omega⟩
    rw [et]
    refine lw3 g1.2.2.2.1 (q224o g1.1 (fun _ => ?_) (fun c4 c8 => absurd ⟨c4, c8⟩ a3))
    unfold wb_224_71
    rw [if_pos rfl]
    refine q227 g1.2.2.2.2.2.2.2.1 ?_
    have ei : inr (A ++ []) = -1 := by
      rw [inr_app A _ (fun y hy => bn_br (by have := g2 y hy; omega))]
      rfl
    rw [ei]
    refine am_ifn (by decide) (am_ifp rfl (am_ifp rfl ?_))
    refine lw4 (u := u') g1.2.2.2.1 ?_
    refine q226s (lvl := 1) g1 (by decide) (by decide) trivial (fun y hy => by have := g2 y hy; omega) (fun G3 r3 => ?_)
    exact k1 j q' f e _ _ G3 H2 (RR_RP r3) g3 (PC_up g4 (by omega))
theorem q213t {x : TX} {i q s : Nat} {M : Nat → Nat × Nat} {G : am_I} {H : am_J} {K : am_I → am_J → Prop} (hx : XOK x) (h : RP x i q s M G H) (k0 : ∀ j, tsD (xC x) (xw x) 8 i q = (j, none) → ∀ G' H', RB x j G' H' → K G' H') (k1 : ∀ j q' f, tsD (xC x) (xw x) 8 i q = (j, some (q', f)) → ∀ s' M' G' H', RP x j q' s' M' G' H' → (∀ k, k < s → M' k = M k) → PC (xw x) M' s s' f 20 → K G' H') : w_213 1 G H K := by
  unfold w_213
  rw [if_neg (by decide)]
  have g := RP_RR h
  have r2 := (RR_c hx g).2.1
  refine ⟨_, rt_ts hx 8 i q s M [] (fun _ I14 L15 => w_226 1 I14 (fun I16 => K I16 L15)) trivial rfl (by show inr [] ≠ 32; decide) (fun j e t G' H' r => ?_) (fun j q' f e => ?_) _ (Nat.le_refl _) 0 _ H ⟨rfl, g⟩⟩
  · exact q226b (lvl := 1) r (by decide) (by decide) (fun G2 r2 => k0 j e G2 H' r2)
  · obtain ⟨a3, a4⟩ := (tsD_adv (law := xw x) (XTN hx) 8 i q j (q', f) r2 e).2.2
    intro u uu t G2 H2 st
    obtain ⟨et, A, M2, s2, g1, g2, g3, g4⟩ := st
    obtain ⟨u', rfl⟩ : ∃ u', u = u' + 2 := ⟨u - 2, by omega⟩
    rw [et]
    refine lw2 g1.2.2.2.1 ?_
    unfold w_229
    rw [show f_211 1476 G2 H2 = b1 (decide (xC x j = 1000000 + 14)) from f211 (j := 14) g1.1 (by decide) rfl, show f_211 498 G2 H2 = b1 (decide (xC x j = 1000000 + 13)) from f211 (j := 13) g1.1 (by decide) rfl, decide_eq_false (show ¬ xC x j = 1000000 + 14 by omega), decide_eq_false (show ¬ xC x j = 1000000 + 13 by omega)]
    refine am_ifp rfl (am_ifp rfl ?_)
    refine q227 g1.2.2.2.2.2.2.2.1 ?_
    have ei : inr (A ++ []) = -1 := by
      rw [inr_app A _ (fun y hy => bn_br (g2 y hy))]
      rfl
    rw [ei]
    refine am_ifp rfl ?_
    refine lw4 (u := u') g1.2.2.2.1 ?_
    refine q226s (lvl := 1) g1 (by decide) (by decide) trivial g2 (fun G3 r3 => ?_)
    exact k1 j q' f e _ _ G3 H2 (RR_RP r3) g3 g4
