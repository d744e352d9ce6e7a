/-! the reference reads a law's clause: from its first token on -/
theorem TXr_76 {law : Bool} {l : List CLD} {s s' : Nat} {M M' : Nat → Nat × Nat} {mk : Nat → Nat → Nat} {G G' : am_I} (h : TXr RWl law l s M mk G) (hM : ∀ k, k < s → M' k = M k) (hs : s ≤ s') (hO : ∀ k, s ≤ k → k < s' → okM law k (M' k)) (e : ∀ k, k < 8 * l.length → G' 76 k = G 76 k) : TXr RWl law l s' M' mk G' := by
  refine ⟨fun c cl ec => ?_, fun k hk => ?_⟩
  rotate_left
  · by_cases z : k < s
    · rw [hM k z]; exact h.2 k z
    · exact hO k (by omega) hk
  obtain ⟨⟨b0, b1', b2, b3, b4, b5⟩, a2, a3⟩ := h.1 c cl ec
  have cl' := gixl ec
  exact ⟨⟨b0, (e _ (by omega)).trans b1', (e _ (by omega)).trans b2, (e _ (by omega)).trans b3, (e _ (by omega)).trans b4, (e _ (by omega)).trans b5⟩, fun i hi => Nat.le_trans (a2 i hi) hs, pz_cg a3 a2 hM (fun _ _ => rfl)⟩
theorem q212tP {x : TX} {i q s : Nat} {M : Nat → Nat × Nat} {G : am_I} {H : am_J} {K : am_I → am_J → Prop} (hx : XOK x) (h : RP x i q s M G H) (hi : i < (xR x).length) (hK : ∀ G' H', RP x (i + 1) q s M G' H' → K G' H') : w_212 1 G H K := by
  unfold w_212
  rw [h.2.2.2.1, if_pos rfl, if_neg (by decide), if_pos rfl]
  exact qnxP hx h hi hK
theorem r135b {x : TX} {B : am_I} {LB : am_J} {j c : Nat} {G : am_I} {H : am_J} {K : am_I → am_J → Prop} {v2 : Int32} (ev : v2 = nI (8 * c)) (hc : c < 12) (h : RBs x B LB j G H) (hK : ∀ G', RBs x B LB j G' H → K G' H) : wb_210_135 v2 G H K := by
  have x4 : v2 + 4 = nI (8 * c + 4) := by rw [ev, show (4 : Int32) = nI 4 from rfl, nb_add]
  have x5 : v2 + 5 = nI (8 * c + 5) := by rw [ev, show (5 : Int32) = nI 5 from rfl, nb_add]
  have x6 : v2 + 6 = nI (8 * c + 6) := by rw [ev, show (6 : Int32) = nI 6 from rfl, nb_add]
  unfold wb_210_135
  refine ⟨nb_gdx x4 (by omega) (by decide), nb_gdx x5 (by omega) (by decide), ?_⟩
  rw [h.2.1]
  refine am_ifn (by decide) ⟨nb_gdx x6 (by omega) (by decide), hK _ (RBs_w h (fun c c1 c2 c3 => ?_) (fun k hk => ?_))⟩
  · rw [uu_h c2, uu_h c2, uu_h c2]
  · rw [uu_c (by decide), uu_c (by decide), uu_c (by decide)]
theorem r135 {x : TX} {B : am_I} {LB : am_J} {l : List CLD} {mk : Nat → Nat → Nat} {kd m0 : Nat} {fs : List FN} {i q s : Nat} {M : Nat → Nat × Nat} {G : am_I} {H : am_J} {K : am_I → am_J → Prop} {v2 : Int32} (ev : v2 = nI (8 * l.length)) (hw : xw x = true) (h : RO x B LB l mk kd m0 fs i q s M G H) (hF : ∀ j, ifP (xC x) true (kd, 1, fs, none) i q = (j, none) → ∀ G' H', RBs x B LB j G' H' → K G' H') (hS : ∀ j q' c, ifP (xC x) true (kd, 1, fs, none) i q = (j, some (q', c)) → ∀ mk s' M' G' H', RS x RWl B LB (l ++ [c]) mk j q' s' M' G' H' → K G' H') : wb_210_135 v2 G H K := by
  obtain ⟨hx, hp, hf, hl, h21, ht, hk, e0, e3, hm, p⟩ := h
  have x4 : v2 + 4 = nI (8 * l.length + 4) := by rw [ev, show (4 : Int32) = nI 4 from rfl, nb_add]
  have x5 : v2 + 5 = nI (8 * l.length + 5) := by rw [ev, show (5 : Int32) = nI 5 from rfl, nb_add]
  have x6 : v2 + 6 = nI (8 * l.length + 6) := by rw [ev, show (6 : Int32) = nI 6 from rfl, nb_add]
  have e23 : G 66 23 = nI s := hp.2.2.2.2.2.1
  unfold wb_210_135
  refine ⟨nb_gdx x4 (by omega) (by decide), nb_gdx x5 (by omega) (by decide), ?_⟩
  rw [nb_cl x4 (by omega), nb_cl x5 (by omega), e23, hp.2.2.2.1]
  refine am_ifp rfl ?_
  obtain ⟨G1, eG1⟩ : ∃ G1, G1 = am_u (am_u G 76 (8 * l.length + 4) (nI s)) 76 (8 * l.length + 5) (nI s) := ⟨_, rfl⟩
  rw [← eG1]
  have w1 : ∀ c, c ≠ 66 → c ≠ 76 → c ≠ 97 → G1 c = G c := fun c c1 c2 c3 => by rw [eG1, uu_h c2, uu_h c2]
  have w2 : ∀ k, G1 66 k = G 66 k := fun k => by rw [eG1, uu_c (by decide), uu_c (by decide)]
  have w3 : ∀ k, k < 8 * l.length + 4 → G1 76 k = G 76 k := fun k hk => by rw [eG1, uu_n (by omega), uu_n (by omega)]
  have w4 : G1 76 (8 * l.length + 4) = nI s := by rw [eG1, uu_n (by omega), uu_e]
  have w5 : G1 76 (8 * l.length + 5) = nI s := by rw [eG1, uu_e]
  obtain ⟨y1, y2⟩ := rb_w hx hp w1 (fun k _ => w2 k)
  have hf1 : frSx B G1 LB H := frSx_w hf w1 (fun k _ => w2 k)
  rw [show f_211 294 G1 H = b1 (decide (xC x i = 1000000 + 8)) from f211 (x := rb x G1 H) (j := 8) y2.1 (by decide) rfl]
  refine ifd (fun c => ?_) (fun c => ?_)
  · refine ⟨nb_gdx x6 (by omega) (by decide), ?_⟩
    rw [nb_cl x6 (by omega)]
    have v1 : ∀ c, c ≠ 66 → c ≠ 76 → c ≠ 97 → am_u G1 76 (8 * l.length + 6) (nI s) c = G1 c := fun c c1 c2 c3 => by rw [uu_h c2]
    have v2' : ∀ k, am_u G1 76 (8 * l.length + 6) (nI s) 66 k = G1 66 k := fun k => by rw [uu_c (by decide)]
    obtain ⟨z1, z2⟩ := rb_w y1 y2 v1 (fun k _ => v2' k)
    exact hS i q (kd, 1, fs, none) (by unfold ifP; rw [if_neg c]) _ s M _ H (RO_end z1 z2 (frSx_w hf1 v1 (fun k _ => v2' k)) hl (by rw [v2', w2]; exact h21) (TXr_76 ht (fun _ _ => rfl) (Nat.le_refl _) (fun k k1 k2 => by omega) (fun k hk => by rw [uu_n (by omega), w3 k (by omega)])) hk (by rw [uu_n (by omega), w3 _ (by omega)]; exact e0) (by rw [uu_n (by omega), w3 _ (by omega)]; exact e3) (by rw [uu_n (by omega)]; exact w4) (by rw [uu_n (by omega)]; exact w5) uu_e hm (Nat.le_refl _) p (Or.inl ⟨rfl, rfl⟩))
  · have il := (RP_c y1 y2).2.2.1 (by show xC x i ≠ 3000000; omega)
    have ep : ifP (xC x) true (kd, 1, fs, none) i q = bd (tsD (xC x) true 8 (i + 1) q) (fun j y => (j, some (y.1, (kd, 1, fs, some y.2)))) := by
      unfold ifP
      rw [if_pos c]
    refine qnxP y1 y2 il (fun G2 H2 g2 => ?_)
    refine q213t y1 g2 (fun j e G3 H3 g3 => ?_) (fun j q' f e s' M' G3 H3 g3 m3 p3 => ?_)
    · have e : tsD (xC x) (xw x) 8 (i + 1) q = (j, none) := e
      rw [hw] at e
      exact ⟨nb_gdx x6 (by omega) (by decide), hF j (by rw [ep, e]; rfl) _ H3 (RBs_w (RBs_of hf1 g3) (fun c c1 c2 c3 => by rw [uu_h c2]) (fun k hk => by rw [uu_c (by decide)]))⟩
    · have e : tsD (xC x) (xw x) 8 (i + 1) q = (j, some (q', f)) := e
      rw [hw] at e
      refine ⟨nb_gdx x6 (by omega) (by decide), ?_⟩
      have f3 := g3.2.1
      have e23' : G3 66 23 = nI s' := g3.2.2.2.2.2.1
      have ps := p3.1
      rw [nb_cl x6 (by omega), e23']
      have k1 : XOK (rb x G3 H3) := (rb_ok y1 g3).1
      have k2 : RP (rb x G3 H3) j q' s' M' G3 H3 := (rb_ok y1 g3).2
      have x76 : G3 76 = G1 76 := f3.1 76 (by decide) (by decide) (by decide) (by decide) (by decide)
      have v1 : ∀ c, c ≠ 66 → c ≠ 76 → c ≠ 97 → am_u G3 76 (8 * l.length + 6) (nI s') c = G3 c := fun c c1 c2 c3 => by rw [uu_h c2]
      have v2' : ∀ k, am_u G3 76 (8 * l.length + 6) (nI s') 66 k = G3 66 k := fun k => by rw [uu_c (by decide)]
      obtain ⟨z1, z2⟩ := rb_w k1 k2 v1 (fun k _ => v2' k)
      have e21 : G3 66 21 = G1 66 21 := f3.2.1 21 (by unfold s66; omega)
      exact hS j q' (kd, 1, fs, some f) (by rw [ep, e]; rfl) _ s' M' _ H3 (RO_end z1 z2 (frSx_w (frSx_R hf1 f3) v1 (fun k _ => v2' k)) hl (by rw [v2', e21, w2]; exact h21) (TXr_76 ht m3 (Nat.le_refl _) (fun k k1 k2 => by omega) (fun k hk => by rw [uu_n (by omega), x76, w3 k (by omega)])) hk (by rw [uu_n (by omega), x76, w3 _ (by omega)]; exact e0) (by rw [uu_n (by omega), x76, w3 _ (by omega)]; exact e3) (by rw [uu_n (by omega), x76]; exact w4) (by rw [uu_n (by omega), x76]; exact w5) uu_e hm (by omega) (p.imp id (fun ⟨f', a, b⟩ => ⟨f', a, PC_cg b (fun k k1 k2 => m3 k k2)⟩)) (Or.inr ⟨f, rfl, p3⟩))
