/-! orders: the reference reads them, from the beginning to the run -/
theorem frE_O {I G : am_I} {L H : am_J} (h : frV (am_u (am_u I 66 0 0) 66 56 (-1)) G L H) : frE (am_u I 66 56 (-1)) (am_u (am_u G 66 20 0) 66 13 0) L H := by
  refine ⟨fun c c1 c2 c3 c4 c5 c6 c7 => ?_, fun k k1 k2 k3 k4 k5 k6 => ?_, h.2.2⟩
  · rw [uu_h c1, uu_h c1, h.1 c c1 c2 c3 c4 c5 c6 c7, uu_h c1, uu_h c1, uu_h c1]
  · rw [uu_n k3, uu_n k5, h.2.1 k k1 k4 k5 k6]
    by_cases e : k = 56
    · rw [e, uu_e, uu_e]
    · rw [uu_n e, uu_n k2, uu_n e]
/-- the run of orders in the reference -/
def RUN4 (I5 : am_I) (L6 : am_J) (K : Int32 → am_I → am_J → Prop) : Prop := w_256 17 I5 (fun I7 =>
  ∃ n77, lw_291_77 n77 (I7 66 8) 0 I7 L6 (fun o8 I9 =>
    ∃ n104, lw_291_104 n104 (I7 66 8) 0 I9 L6 (fun o10 I11 =>
      ∃ n140, lw_291_140 n140 (I7 66 8) 0 (am_u (am_u I11 66 54 0) 66 55 (-1)) L6 (fun o21 I22 L23 =>
        w_179 (I22 66 54) I22 (fun q24 I25 =>
          K q24 I25 L23)) K)))
theorem q291 {I : am_I} {L : am_J} {b : Nat → Nat} {z : Nat} {K : Int32 → am_I → am_J → Prop} (hB : BYr I b z) (hL : LWr L) (hl : (tkL b z).length ≤ 400) (hF : ∀ j, txP (tkC b z) (clO (tkC b z)) 12 0 0 = (j, none) → ∀ G H, frE (am_u I 66 56 (-1)) G L H → G 66 13 = 0 → G 66 20 = 0 → G 66 18 = nI (tkS b z j) → w_179 (-6) G (fun q I => K q I H)) (hS : ∀ j l, txP (tkC b z) (clO (tkC b z)) 12 0 0 = (j, some l) → ∀ mk s M G H, frE (am_u I 66 56 (-1)) G L H → G 66 13 = 0 → G 66 20 = 0 → G 66 18 = -1 → s ≤ 400 → l.length ≤ 12 → G 66 21 = nI l.length → CDr false G M s → TXr RWq false l s M mk G → RUN4 G H K) : w_291 I L K := by
  have ts := TS_of hB.1 (fun k hk => (hB.2.2 k hk).1) hl
  unfold w_291
  refine q205 (RW := RWq) (law := false) ts ⟨hB.1, by rw [uu_n (by decide), uu_n (by decide)]; exact hB.2.1, fun k hk => by rw [uu_c (by decide), uu_c (by decide)]; exact hB.2.2 k hk⟩ hL rfl (fun G H fv e18 rs => ?_)
  obtain ⟨x, ex⟩ : ∃ x : TX, x = (b, z, tkL b z, tkC b z, tkS b z, false, G, H) := ⟨_, rfl⟩
  rw [← ex] at rs
  have hw : xw x = false := by rw [ex]
  have hC : xC x = tkC b z := by rw [ex]
  have hSx : xS x = tkS b z := by rw [ex]
  have hRx : xR x = tkL b z := by rw [ex]
  obtain ⟨E, eE⟩ : ∃ E : am_I → am_J → Prop, E = fun I L => w_230 I L (fun I15 L16 => if (I15 66 19) = 0 then RUN4 I15 L16 K else w_179 (-6) I15 (fun q I => K q I L16)) := ⟨_, rfl⟩
  obtain ⟨Y, eY⟩ : ∃ Y, Y = txP (tkC b z) (clO (tkC b z)) 12 0 0 := ⟨_, rfl⟩
  have bad : ∀ j G' H', RBs x G H j G' H' → Y = (j, none) → (if (am_u (am_u G' 66 20 0) 66 13 0) 66 19 = 0 then RUN4 (am_u (am_u G' 66 20 0) 66 13 0) H' K else w_179 (-6) (am_u (am_u G' 66 20 0) 66 13 0) (fun q I => K q I H')) := by
    intro j G' H' g e
    have y19 : (am_u (am_u G' 66 20 0) 66 13 0) 66 19 = 1 := by rw [uu_n (by decide), uu_n (by decide)]; exact g.2.1
    rw [y19]
    refine am_ifn (by decide) (hF j (eY.symm.trans e) _ H' (frE_O (frV_b fv g.1)) uu_e (by rw [uu_n (by decide), uu_e]) ?_)
    rw [uu_n (by decide), uu_n (by decide), g.2.2.1, hSx]
  have hEb : ∀ j G' H', RBs x G H j G' H' → Y = (j, none) → E G' H' := by
    intro j G' H' g e
    rw [eE]
    exact q230b g (bad j G' H' g e)
  have hE : ∀ l mk i q s M G' H', RS x RWq G H l mk i q s M G' H' → (xC x i = 3000000 → Y = (i, some l)) → (xC x i ≠ 3000000 → Y = (i, none)) → E G' H' := by
    intro l mk i q s M G' H' h e1 e2
    rw [eE]
    refine q230 (Y := Y) h e1 e2 bad (fun e => ?_)
    obtain ⟨hx, hp, hf, hl', h21, ht⟩ := h
    have y19 : (am_u (am_u G' 66 20 0) 66 13 0) 66 19 = 0 := by rw [uu_n (by decide), uu_n (by decide)]; exact hp.2.2.2.1
    have fe := frE_O (frV_S fv hf)
    have cd : CDr (xw x) G' M s := hp.2.2.2.2.2.2.1
    have s4 : s ≤ 400 := Nat.le_trans hp.2.2.2.2.2.2.2.1 hp.2.2.2.2.2.2.2.2
    rw [hw] at cd ht
    refine am_ifp y19 (hS i l (eY.symm.trans e) mk s M _ H' fe uu_e (by rw [uu_n (by decide), uu_e]) ?_ s4 hl' (by rw [uu_n (by decide), uu_n (by decide)]; exact h21) (fun k hk => ?_) (TXr_rb RWq_o ht (by rw [uu_h (by decide), uu_h (by decide)]) (by rw [uu_h (by decide), uu_h (by decide)]) (fun _ _ => rfl) (Nat.le_refl _) (fun k k1 k2 => by omega)))
    · rw [uu_n (by decide), uu_n (by decide), hf.2.1 18 (by unfold s66; omega) (by decide)]; exact e18
    · rw [uu_c (by decide), uu_c (by decide), uu_c (by decide), uu_c (by decide)]; exact cd k hk
  have main : w_292 G H (fun I3 L4 => if (I3 66 19) = 0 then (if (f_216 59 I3 L4) = 0 then E I3 L4 else w_207 I3 L4 (fun I25 L26 => w_292 I25 L26 (fun I27 L28 => ∃ n37, lw_291_19 n37 I27 L28 E))) else E I3 L4) := by
    have hlw : ∀ n G H E, (if G 66 19 = 0 then (if f_216 59 G H = 0 then E G H else w_207 G H (fun I L => w_292 I L (fun I' L' => lw_291_19 n I' L' E))) else E G H) → lw_291_19 (n + 1) G H E := fun n G H E h => by
      unfold lw_291_19
      exact h
    refine r292 (x := x) hw [] _ 0 0 0 _ G H _ rs (fun j e1 e2 G1 H1 g1 => ?_) (fun _ j q' c e mk' s' M' G1 H1 g1 => ?_)
    · have e := e1 (by decide)
      rw [hC] at e
      rw [g1.2.1]
      exact am_ifn (by decide) (hEb j G1 H1 g1 (eY.trans (txP_f e)))
    · rw [hC] at e
      refine st37 (Q := fun I27 L28 => ∃ n37, lw_291_19 n37 I27 L28 E) (k := 11) RWq_o (r292 hw) g1 rfl (by rw [eY, hC]; exact txP_s e) hE (fun j G2 H2 g e => ⟨1, hlw 0 G2 H2 E (by rw [g.2.1]; exact am_ifn (by decide) (hEb j G2 H2 g e))⟩) (fun l' mk j q' s' M' G2 H2 k' a1 a2 g e => ⟨k' + 2, l37 RWq_o (r292 hw) hlw hE hEb k' l' mk j q' s' M' G2 H2 a1 g e⟩)
  rw [eE] at main
  exact main
