/-! orders: the reference, from the text to the end -/
def rzz (c : Nat) : Prop := c ≠ 66 ∧ c ≠ 67 ∧ c ≠ 68 ∧ ¬ (71 ≤ c ∧ c ≤ 74) ∧ ¬ (76 ≤ c ∧ c ≤ 80) ∧ c ≠ 97
theorem oref {I X V' : am_I} {L : am_J} {b : Nat → Nat} {z j u u' dn' bb : Nat} {fd' : Int32} {good : Prop} {l : List CLD} {K : Int32 → am_I → am_J → Prop} (hBr : BYr I b z) (hL : LWr L) (hl : (tkL b z).length ≤ 400) (e : txP (tkC b z) (clO (tkC b z)) 12 0 0 = (j, some l)) (x66 : X 66 = I 66) (x68 : X 68 = I 68) (x71 : X 71 = I 71) (x72 : X 72 = I 72) (x75 : X 75 = I 75) (cr : CLR l.length 0 l I V' u u' 0 dn' (-1) fd' good bb) (eu2 : I 66 8 = nI u) (hu : u ≤ 16) (d240 : dn' ≤ 240)
    (kG : good → ∀ Z H, RNv Z V' u' → (∀ c, rzz c → Z c = X c) → Z 67 = X 67 → Z 66 1 = 0 → (∀ i, (i = 11 ∨ i = 60 ∨ i = 61) → Z 66 i = I 66 i) → Z 66 13 = 0 → Z 66 20 = 0 → Z 66 18 = -1 → Z 66 56 = -1 → LWr H → K (nI dn') Z H)
    (kB : ¬ good → ∀ Z H, Z 68 = I 68 → (∀ k, k < 336 → Z 71 k = I 71 k) → (∀ k, k < 16 → Z 72 k = I 72 k) → Z 66 8 = I 66 8 → (∀ c, rzz c → Z c = X c) → (∀ i, i ≠ 3 → Z 67 i = X 67 i) → Z 67 3 = X 67 3 + 1 → Z 66 1 = -3 → (∀ i, (i = 11 ∨ i = 60 ∨ i = 61) → Z 66 i = I 66 i) → Z 66 13 = 0 → Z 66 20 = 0 → Z 66 18 = -1 → Z 66 56 = nI bb → LWr H → K (-3) Z H) : w_291 X L K := by
  refine q291 (b := b) (z := z) ⟨hBr.1, by rw [x66]; exact hBr.2.1, fun k hk => by rw [x75]; exact hBr.2.2 k hk⟩ hL hl (fun j' e' => by rw [e] at e'; injection e' with _ e'; cases e') (fun j' l' e' mk s M G H fe a13 a20 a18 s4 l12 h21 cd tx => ?_)
  have el : l' = l := by
    rw [e] at e'
    injection e' with _ e'
    injection e' with e'
    exact e'.symm
  rw [el] at l12 h21 tx
  have gx : ∀ c, c ≠ 66 → ¬ (76 ≤ c ∧ c ≤ 80) → c ≠ 97 → G c = X c := fun c c1 c2 c3 => by rw [fe.1 c c1 (by omega) (by omega) (by omega) (by omega) (by omega) c3, uu_h c1]
  have g66 : ∀ k, (k = 8 ∨ k = 11 ∨ k = 60 ∨ k = 61) → G 66 k = I 66 k := fun k hk => by rw [fe.2.1 k (by unfold s66; omega) (by omega) (by omega) (by omega) (by omega) (by omega), uu_n (by omega), x66]
  have g56 : G 66 56 = -1 := by rw [fe.2.1 56 (by unfold s66; omega) (by omega) (by omega) (by omega) (by omega) (by omega), uu_e]
  have rn : RNv G I u := ⟨by rw [gx 68 (by decide) (by omega) (by decide)]; exact x68, by rw [g66 8 (by omega)]; exact eu2, eu2, fun k _ => by rw [gx 71 (by decide) (by omega) (by decide), x71], fun k _ => by rw [gx 72 (by decide) (by omega) (by decide), x72]⟩
  have lw : ∀ H', (∀ c, c ≠ 66 → c ≠ 85 → c ≠ 86 → H' c = H c) → LWr H' := fun H' h => ⟨by rw [h 81 (by decide) (by decide) (by decide), fe.2.2.1 81 (by decide)]; exact hL.1, by rw [h 82 (by decide) (by decide) (by decide), fe.2.2.1 82 (by decide)]; exact hL.2.1, by rw [h 83 (by decide) (by decide) (by decide), fe.2.2.1 83 (by decide)]; exact hL.2.2⟩
  refine q_run cr rn hu ⟨s4, l12, cd, tx⟩ h21 (fun g F H' rF e54 f4 => ?_) (fun g F H' y68 y71 y72 y8 f4 => ?_)
  · rw [e54]
    refine tl0 (nI_pos' (by omega)) ?_
    refine kG g _ H' (RNv_cg rF (uu_h (by decide)) (uu_n (by decide)) (uu_h (by decide)) (uu_h (by decide))) (fun c hc => ?_) ?_ uu_e (fun i hi => ?_) ?_ ?_ ?_ ?_ (lw H' f4.2.2.2)
    · obtain ⟨c1, c2, c3, c4, c5, c6⟩ := hc
      rw [uu_h c1, f4.1 c c1 c3 (by omega)]
      exact gx c c1 c5 c6
    · rw [uu_h (by decide), f4.1 67 (by decide) (by decide) (by omega)]
      exact gx 67 (by decide) (by omega) (by decide)
    · rw [uu_n (by omega), f4.2.1 i (by omega) (by omega) (by omega) (by omega) (by omega) (by omega)]
      exact g66 i (by omega)
    · rw [uu_n (by decide), f4.2.1 13 (by decide) (by decide) (by decide) (by decide) (by decide) (by decide)]; exact a13
    · rw [uu_n (by decide)]; exact f4.2.2.1 a20
    · rw [uu_n (by decide), f4.2.1 18 (by decide) (by decide) (by decide) (by decide) (by decide) (by decide)]; exact a18
    · rw [uu_n (by decide), f4.2.1 56 (by decide) (by decide) (by decide) (by decide) (by decide) (by decide)]; exact g56
  · refine tl3 ?_
    refine kB g _ H' ?_ (fun k hk => ?_) (fun k hk => ?_) ?_ (fun c hc => ?_) (fun i hi => ?_) ?_ ?_ (fun i hi => ?_) ?_ ?_ ?_ ?_ (lw H' f4.2.2.2)
    · rw [uu_h (by decide), uu_h (by decide), uu_h (by decide), y68]; exact rn.1
    · rw [uu_h (by decide), uu_h (by decide), uu_h (by decide), y71 k hk, gx 71 (by decide) (by omega) (by decide), x71]
    · rw [uu_h (by decide), uu_h (by decide), uu_h (by decide), y72 k hk, gx 72 (by decide) (by omega) (by decide), x72]
    · rw [uu_c (by decide), uu_n (by decide), uu_n (by decide), y8]; exact eu2.symm
    · obtain ⟨c1, c2, c3, c4, c5, c6⟩ := hc
      rw [uu_h c2, uu_h c1, uu_h c1, f4.1 c c1 c3 (by omega)]
      exact gx c c1 c5 c6
    · rw [uu_n hi, uu_c (by decide), uu_c (by decide), f4.1 67 (by decide) (by decide) (by omega), gx 67 (by decide) (by omega) (by decide)]
    · rw [uu_e, uu_c (by decide), f4.1 67 (by decide) (by decide) (by omega), gx 67 (by decide) (by omega) (by decide)]
    · rw [uu_c (by decide), uu_e]
    · rw [uu_c (by decide), uu_n (by omega), uu_n (by omega), f4.2.1 i (by omega) (by omega) (by omega) (by omega) (by omega) (by omega)]
      exact g66 i (by omega)
    · rw [uu_c (by decide), uu_n (by decide), uu_n (by decide), f4.2.1 13 (by decide) (by decide) (by decide) (by decide) (by decide) (by decide)]; exact a13
    · rw [uu_c (by decide), uu_n (by decide), uu_n (by decide)]; exact f4.2.2.1 a20
    · rw [uu_c (by decide), uu_n (by decide), uu_n (by decide), f4.2.1 18 (by decide) (by decide) (by decide) (by decide) (by decide) (by decide)]; exact a18
    · rw [uu_c (by decide), uu_n (by decide), uu_e]
/-- the clause where it stopped is another: all else stands -/
theorem inv_35 {N : Nat} {T : Nat → Nat × Nat} {r : Nat → Nat → Option Nat} {I : am_I} {L : am_J} (h : Inv DR N T r I L) (x : Int32) : Inv DR N T r (am_u (am_u I 35 1 x) 66 56 x) L := by
  obtain ⟨⟨h1, h2, h3, h4, h5, h6, h7, h8, h9, f1, f2, f3, f4, f5⟩, hdd⟩ := h
  refine ⟨⟨h1, h2, h3, h4, h5, h6, h7, h8, h9, f1, rfl, f3, f4, f5⟩, DR_fr _ _ _ I _ _ ⟨fun a ha => by rw [uu_h (by omega), uu_h (by omega)], rfl, fun _ _ => rfl, rfl, rfl, Or.inr ⟨rfl, rfl, rfl, rfl, rfl, rfl, rfl⟩⟩ hdd⟩
/-- a text that can't be read -/
theorem ord_F {N : Nat} {T : Nat → Nat × Nat} {r : Nat → Nat → Option Nat} {I G : am_I} {L : am_J} {b : Nat → Nat} {z j : Nat} (h0 : Inv DR N T r I L) (hBr : BYr I b z) (hl : (tkL b z).length ≤ 400) (e : txP (tkC b z) (clO (tkC b z)) 12 0 0 = (j, none)) (fk : frK (am_u I 35 1 (-1)) G) (g1 : G 14 1 = 0) (g2 : G 14 2 = nI (tkS b z j)) : w_291 (am_u (am_u G 0 12 (-6)) 65 4 (G 65 4 + 1)) L (fun q2 I2 L2 => -6 = q2 ∧ Inv DR N T r I2 L2) := by
  have h' := inv_35 h0 (-1)
  obtain ⟨I', eI⟩ : ∃ I', I' = am_u (am_u I 35 1 (-1)) 66 56 (-1) := ⟨_, rfl⟩
  rw [← eI] at h'
  have iA : ∀ c, c ≠ 66 → I' c = am_u I 35 1 (-1) c := fun c hc => by rw [eI, uu_h hc]
  have i66 : ∀ i, i ≠ 56 → I' 66 i = I 66 i := fun i hi => by rw [eI, uu_n hi, uu_c (by decide)]
  have i56 : I' 66 56 = -1 := by rw [eI, uu_e]
  have gi : ∀ c, c ≠ 14 → ¬ (16 ≤ c ∧ c ≤ 22) → c ≠ 66 → G c = I' c := fun c c1 c2 c3 => by rw [iA c c3]; exact fk.1 c (by omega) (by omega) (by omega) (by omega) (by omega) (by omega) (by omega) (by omega)
  have g66 : G 66 = I 66 := by rw [fk.1 66 (by decide) (by decide) (by decide) (by decide) (by decide) (by decide) (by decide) (by decide), uu_h (by decide)]
  have g75 : G 75 = I 75 := by rw [fk.1 75 (by decide) (by decide) (by decide) (by decide) (by decide) (by decide) (by decide) (by decide), uu_h (by decide)]
  obtain ⟨X, eX⟩ : ∃ X, X = am_u (am_u G 0 12 (-6)) 65 4 (G 65 4 + 1) := ⟨_, rfl⟩
  rw [← eX]
  have xo : ∀ c, c ≠ 0 → c ≠ 65 → X c = G c := fun c c1 c2 => by rw [eX, uu_h c2, uu_h c1]
  have f5 : LWr L := h0.1.2.2.2.2.2.2.2.2.2.2.2.2.2
  refine q291 (b := b) (z := z) ⟨hBr.1, by rw [xo 66 (by decide) (by decide), g66]; exact hBr.2.1, fun k hk => by rw [xo 75 (by decide) (by decide), g75]; exact hBr.2.2 k hk⟩ f5 hl (fun j' e' G2 H2 fe a13 a20 a18 => tl6 ⟨rfl, ?_⟩) (fun j' l' e' => by rw [e] at e'; injection e' with _ e'; cases e')
  have ej : j' = j := by
    rw [e] at e'
    injection e' with e' _
    exact e'.symm
  have lo : ∀ c, c ≠ 66 → c ≠ 76 → c ≠ 77 → c ≠ 78 → c ≠ 79 → c ≠ 80 → c ≠ 97 → G2 c = X c := fun c c3 c4 c5 c6 c7 c8 c9 => by rw [fe.1 c c3 c4 c5 c6 c7 c8 c9, uu_h c3]
  have k0 : G2 0 = X 0 := lo 0 (by decide) (by decide) (by decide) (by decide) (by decide) (by decide) (by decide)
  have k65 : G2 65 = X 65 := lo 65 (by decide) (by decide) (by decide) (by decide) (by decide) (by decide) (by decide)
  have k67 : G2 67 = I' 67 := by rw [lo 67 (by decide) (by decide) (by decide) (by decide) (by decide) (by decide) (by decide), xo 67 (by decide) (by decide)]; exact gi 67 (by decide) (by omega) (by decide)
  have k14 : G2 14 = G 14 := by rw [lo 14 (by decide) (by decide) (by decide) (by decide) (by decide) (by decide) (by decide), xo 14 (by decide) (by decide)]
  have x0 : ∀ i, i ≠ 12 → X 0 i = I' 0 i := fun i hi => by rw [eX, uu_c (by decide), uu_n hi, gi 0 (by decide) (by omega) (by decide)]
  have x012 : X 0 12 = -6 := by rw [eX, uu_c (by decide), uu_e]
  have x65 : ∀ i, i ≠ 4 → X 65 i = I' 65 i := fun i hi => by rw [eX, uu_n hi, uu_c (by decide), gi 65 (by decide) (by omega) (by decide)]
  have x654 : X 65 4 = I' 65 4 + 1 := by rw [eX, uu_e, gi 65 (by decide) (by omega) (by decide)]
  refine inv_rd (j := 4) (j' := 6) (v := -6) h' (Or.inr ⟨rfl, rfl⟩) (fun c hc => ?_) (fun i hi => ?_) ?_ (fun i hi => ?_) ?_ (fun i hi => ?_) ?_ ?_ (fun i hi => ?_) ?_ ?_ ?_ ?_ ⟨(fe.2.2.1 81 (by decide)).trans f5.1, (fe.2.2.1 82 (by decide)).trans f5.2.1, (fe.2.2.1 83 (by decide)).trans f5.2.2⟩
  · unfold rdo at hc
    rw [uu_h (by omega), uu_h (by omega), lo c (by omega) (by omega) (by omega) (by omega) (by omega) (by omega) (by omega), xo c (by omega) (by omega)]
    exact gi c (by omega) (by omega) (by omega)
  · rw [uu_c (by decide), uu_c (by decide), k0]; exact x0 i hi
  · rw [uu_c (by decide), uu_c (by decide), k0]; exact x012
  · rw [uu_c (by decide), uu_c (by decide), k65]; exact x65 i hi
  · rw [uu_c (by decide), uu_c (by decide), k65]; exact x654
  · rw [uu_n hi, uu_c (by decide), k67]
  · rw [uu_e, k67]
  · rw [uu_c (by decide), uu_e]
  · rw [uu_c (by decide), uu_n (by omega), fe.2.1 i (by unfold s66; omega) (by omega) (by omega) (by omega) (by omega) (by omega)]
    by_cases w : i = 56
    · rw [w, uu_e, i56]
    · rw [uu_n w, xo 66 (by decide) (by decide), g66, i66 i w]
  · rw [uu_c (by decide), uu_n (by decide)]; exact a13
  · rw [uu_c (by decide), uu_n (by decide)]; exact a20
  · rw [uu_c (by decide), uu_c (by decide), k14]; exact g1
  · rw [uu_c (by decide), uu_c (by decide), k14, uu_c (by decide), uu_n (by decide), a18, ej]; exact g2
