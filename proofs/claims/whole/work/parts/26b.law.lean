/-! law: the reference, from its beginning to its end -/
/-- what reading changes, ended -/
def frE (I G : am_I) (L H : am_J) : Prop := (∀ c, c ≠ 66 → c ≠ 76 → c ≠ 77 → c ≠ 78 → c ≠ 79 → c ≠ 80 → c ≠ 97 → G c = I c) ∧ (∀ k, ¬ s66 k → k ≠ 0 → k ≠ 13 → k ≠ 18 → k ≠ 20 → k ≠ 21 → G 66 k = I 66 k) ∧ (∀ c, c ≠ 66 → H c = L c) ∧ ∀ k, k ≠ 17 → H 66 k = L 66 k
theorem frE_V {I G : am_I} {L H : am_J} (h : frV (am_u I 66 0 0) G L H) : frE I (am_u (am_u G 66 20 0) 66 13 0) L H := by
  refine ⟨fun c c1 c2 c3 c4 c5 c6 c7 => ?_, fun k k1 k2 k3 k4 k5 k6 => ?_, h.2.2⟩
  · rw [uu_h c1, uu_h c1, h.1 c c1 c2 c3 c4 c5 c6 c7, uu_h c1]
  · rw [uu_n k3, uu_n k5, h.2.1 k k1 k4 k5 k6, uu_n k2]
theorem q204 {I : am_I} {L : am_J} {b : Nat → Nat} {z k : Nat} {K : Int32 → am_I → am_J → Prop} (hk : k < 6) (e3 : I 68 3 = nI k) (hB : BYr I b z) (hL : LWr L) (hl : (tkL b z).length ≤ 400) (hF : ∀ j, txP (tkC b z) (clL (tkC b z)) 12 0 0 = (j, none) → ∀ G H, frE I G L H → G 66 13 = 0 → G 66 20 = 0 → G 66 18 = nI (tkS b z j) → w_179 (-6) G (fun q I => K q I H)) (hS : ∀ j l, txP (tkC b z) (clL (tkC b z)) 12 0 0 = (j, some l) → ∀ mk s M G H, frE I G L H → G 66 13 = 0 → G 66 20 = 0 → G 66 18 = -1 → s ≤ 400 → l.length ≤ 12 → CDr true G M s → TXr RWl true l s M mk G → ∀ J, wrt G J k l.length s → K (nI k) J H) : w_204 I L K := by
  have ts := TS_of hB.1 (fun k hk => (hB.2.2 k hk).1) hl
  have n6 : ¬ I 68 3 = 6 := by
    rw [e3]
    exact fun q => by have := (nb_inj (b := 6) (by omega) (by decide)).mp q; omega
  unfold w_204
  refine am_ifn n6 ?_
  refine q205 (RW := RWl) (law := true) ts ⟨hB.1, by rw [uu_n (by decide)]; exact hB.2.1, fun k hk => by rw [uu_c (by decide)]; exact hB.2.2 k hk⟩ hL rfl (fun G H fv e18 rs => ?_)
  obtain ⟨x, ex⟩ : ∃ x : TX, x = (b, z, tkL b z, tkC b z, tkS b z, true, G, H) := ⟨_, rfl⟩
  rw [← ex] at rs
  have hw : xw x = true := by rw [ex]
  have hC : xC x = tkC b z := by rw [ex]
  have hSx : xS x = tkS b z := by rw [ex]
  have hRx : xR x = tkL b z := by rw [ex]
  obtain ⟨E, eE⟩ : ∃ E : am_I → am_J → Prop, E = fun I L => w_230 I L (fun I15 L16 => if (I15 66 19) = 0 then END4 I15 L16 K else w_179 (-6) I15 (fun q I => K q I L16)) := ⟨_, rfl⟩
  obtain ⟨Y, eY⟩ : ∃ Y, Y = txP (tkC b z) (clL (tkC b z)) 12 0 0 := ⟨_, rfl⟩
  have bad : ∀ j G' H', RBs x G H j G' H' → Y = (j, none) → (if (am_u (am_u G' 66 20 0) 66 13 0) 66 19 = 0 then END4 (am_u (am_u G' 66 20 0) 66 13 0) H' K else w_179 (-6) (am_u (am_u G' 66 20 0) 66 13 0) (fun q I => K q I H')) := by
    intro j G' H' g e
    have y19 : (am_u (am_u G' 66 20 0) 66 13 0) 66 19 = 1 := by rw [uu_n (by decide), uu_n (by decide)]; exact g.2.1
    rw [y19]
    refine am_ifn (by decide) (hF j (eY.symm.trans e) _ H' (frE_V (frV_b fv g.1)) uu_e (by rw [uu_n (by decide), uu_e]) ?_)
    rw [uu_n (by decide), uu_n (by decide), g.2.2.1, hSx]
  have hEb : ∀ j G' H', RBs x G H j G' H' → Y = (j, none) → E G' H' := by
    intro j G' H' g e
    rw [eE]
    exact q230b g (bad j G' H' g e)
  have hE : ∀ l mk i q s M G' H', RS x RWl G H l mk i q s M G' H' → (xC x i = 3000000 → Y = (i, some l)) → (xC x i ≠ 3000000 → Y = (i, none)) → E G' H' := by
    intro l mk i q s M G' H' h e1 e2
    rw [eE]
    refine q230 (Y := Y) h e1 e2 bad (fun e => ?_)
    obtain ⟨hx, hp, hf, hl', h21, ht⟩ := h
    have y19 : (am_u (am_u G' 66 20 0) 66 13 0) 66 19 = 0 := by rw [uu_n (by decide), uu_n (by decide)]; exact hp.2.2.2.1
    have fe := frE_V (frV_S fv hf)
    have cd : CDr (xw x) G' M s := hp.2.2.2.2.2.2.1
    have s4 : s ≤ 400 := Nat.le_trans hp.2.2.2.2.2.2.2.1 hp.2.2.2.2.2.2.2.2
    rw [hw] at cd ht
    refine am_ifp y19 (e204 hk hl' s4 (by rw [fe.1 68 (by decide) (by decide) (by decide) (by decide) (by decide) (by decide) (by decide)]; exact e3) (by rw [uu_n (by decide), uu_n (by decide)]; exact h21) (by rw [uu_n (by decide), uu_n (by decide)]; exact hp.2.2.2.2.2.1) (hS i l (eY.symm.trans e) mk s M _ H' fe uu_e (by rw [uu_n (by decide), uu_e]) ?_ s4 hl' (fun k hk => ?_) (TXr_rb RWl_o ht (by rw [uu_h (by decide), uu_h (by decide)]) (by rw [uu_h (by decide), uu_h (by decide)]) (fun _ _ => rfl) (Nat.le_refl _) (fun k k1 k2 => by omega))))
    · rw [uu_n (by decide), uu_n (by decide), hf.2.1 18 (by unfold s66; omega) (by decide)]; exact e18
    · rw [uu_c (by decide), uu_c (by decide), uu_c (by decide), uu_c (by decide)]; exact cd k hk
  have main : w_210 G H (fun I3 L4 => if (I3 66 19) = 0 then (if (f_216 59 I3 L4) = 0 then E I3 L4 else w_207 I3 L4 (fun I25 L26 => w_210 I25 L26 (fun I27 L28 => ∃ n37, lw_204_37 n37 I27 L28 E))) else E I3 L4) := by
    have hlw : ∀ n G H E, (if G 66 19 = 0 then (if f_216 59 G H = 0 then E G H else w_207 G H (fun I L => w_210 I L (fun I' L' => lw_204_37 n I' L' E))) else E G H) → lw_204_37 (n + 1) G H E := fun n G H E h => by
      unfold lw_204_37
      exact h
    refine r210 (x := x) hw [] _ 0 0 0 _ G H _ rs (fun j e1 e2 G1 H1 g1 => ?_) (fun _ j q' c e mk' s' M' G1 H1 g1 => ?_)
    · have e := e1 (by decide)
      rw [hC] at e
      rw [g1.2.1]
      exact am_ifn (by decide) (hEb j G1 H1 g1 (eY.trans (txP_f e)))
    · rw [hC] at e
      refine st37 (Q := fun I27 L28 => ∃ n37, lw_204_37 n37 I27 L28 E) (k := 11) RWl_o (r210 hw) g1 rfl (by rw [eY, hC]; exact txP_s e) hE (fun j G2 H2 g e => ⟨1, hlw 0 G2 H2 E (by rw [g.2.1]; exact am_ifn (by decide) (hEb j G2 H2 g e))⟩) (fun l' mk j q' s' M' G2 H2 k' a1 a2 g e => ⟨k' + 2, l37 RWl_o (r210 hw) hlw hE hEb k' l' mk j q' s' M' G2 H2 a1 g e⟩)
  rw [eE] at main
  exact main
