/-! orders: the reference reads a clause: rows of ten, sums -/
def RWq : RWT := fun G c cl m => cl.1 ≤ 3 ∧ 1 ≤ cl.2.1 ∧ cl.2.1 ≤ 20 ∧ G 97 (10 * c) = nI cl.1 ∧ G 97 (10 * c + 9) = nI cl.2.1 ∧ (∀ j, j < 3 → (j < cl.2.2.1.length → G 97 (10 * c + 1 + 2 * j) = nI (m j) ∧ G 97 (10 * c + 2 + 2 * j) = nI (m (j + 1))) ∧ (cl.2.2.1.length ≤ j → G 97 (10 * c + 1 + 2 * j) = G 97 (10 * c + 2 + 2 * j))) ∧ G 97 (10 * c + 7) = nI (m 3) ∧ G 97 (10 * c + 8) = nI (m 4)
theorem RWq_o : RWo RWq := by
  intro G G' c cl m e1 e2 h
  unfold RWq
  rw [e2]
  exact h
theorem TXr_97 {law : Bool} {l : List CLD} {s s' : Nat} {M M' : Nat → Nat × Nat} {mk : Nat → Nat → Nat} {G G' : am_I} (h : TXr RWq law l s M mk G) (hM : ∀ k, k < s → M' k = M k) (hs : s ≤ s') (hO : ∀ k, s ≤ k → k < s' → okM law k (M' k)) (e : ∀ k, k < 10 * l.length → G' 97 k = G 97 k) : TXr RWq law l s' M' mk G' := by
  refine ⟨fun c cl ec => ?_, fun k hk => ?_⟩
  rotate_left
  · by_cases z : k < s
    · rw [hM k z]; exact h.2 k z
    · exact hO k (by omega) hk
  obtain ⟨⟨b0, b1', b2, b3, b4, b5, b6, b7⟩, a2, a3⟩ := h.1 c cl ec
  have cl' := gixl ec
  refine ⟨⟨b0, b1', b2, (e _ (by omega)).trans b3, (e _ (by omega)).trans b4, fun j hj => ?_, (e _ (by omega)).trans b6, (e _ (by omega)).trans b7⟩, fun i hi => Nat.le_trans (a2 i hi) hs, pz_cg a3 a2 hM (fun _ _ => rfl)⟩
  rw [e (10 * c + 1 + 2 * j) (by omega), e (10 * c + 2 + 2 * j) (by omega)]
  exact b5 j hj
theorem l109 {G0 : am_I} {H : am_J} {c : Nat} {v1 : Int32} {E : Int32 → am_I → Prop} (hc : c < 12) (hE : ∀ v G', (∀ a, a ≠ 97 → G' a = G0 a) → (∀ k, k < 10 * c → G' 97 k = G0 97 k) → (∀ k, 10 * c ≤ k → k < 10 * c + 10 → G' 97 k = 0) → E v G') : ∀ m j G, j + m = 10 → (∀ a, a ≠ 97 → G a = G0 a) → (∀ k, k < 10 * c → G 97 k = G0 97 k) → (∀ k, 10 * c ≤ k → k < 10 * c + j → G 97 k = 0) → lw_292_109 (m + 1) v1 (nI (10 * c)) (nI j) G H E
  | 0, j, G, hj, h1, h2, h3 => by
    unfold lw_292_109
    rw [if_pos (show (10 : Int32) ≤ nI j from nI_le (a := 10) (by omega) (by omega))]
    exact hE _ G h1 h2 (fun k k1 k2 => h3 k k1 (by omega))
  | m + 1, j, G, hj, h1, h2, h3 => by
    unfold lw_292_109
    rw [if_neg (show ¬ (10 : Int32) ≤ nI j from nI_ge (b := 10) (by omega) (by decide)), nb_add]
    refine ⟨nb_gd (by omega) (by decide), ?_⟩
    rw [nI_clamp (by omega), ← nI_succ]
    refine l109 hc hE m (j + 1) _ (by omega) (fun a ha => ?_) (fun k hk => ?_) (fun k k1 k2 => ?_)
    · rw [uu_h ha]; exact h1 a ha
    · rw [uu_n (by omega)]; exact h2 k hk
    · by_cases e : k = 10 * c + j
      · rw [e, uu_e]
      · rw [uu_n e]; exact h3 k k1 (by omega)
theorem q223P {x : TX} {i q s hi : Nat} {M : Nat → Nat × Nat} {B G : am_I} {LB H : am_J} {K : Int32 → am_I → am_J → Prop} {lo : Nat} {y1 y2 : Int64} (hB : frSx B G LB H) (hx : XOK (rb x G H)) (h : RP (rb x G H) i q s M G H) (hh : hi ≤ 1000) (hl : lo ≤ hi) (e1 : y1 = lN lo) (e2 : y2 = lN hi) (k0 : ¬ (lo ≤ xC x i ∧ xC x i ≤ hi) → ∀ v G', RBs x B LB i G' H → K v G' H) (k1 : lo ≤ xC x i → xC x i ≤ hi → ∀ G' H', RP (rb x G H) (i + 1) q s M G' H' → K (nI (xC x i)) G' H') : w_223 y1 y2 G H K := by
  obtain ⟨r1, r2, r3, r4⟩ := RP_c hx h
  have r1 : xC x i ≤ 3000000 := r1
  have r3 : xC x i ≠ 3000000 → i < (xR x).length := r3
  obtain ⟨t1, t2, t3, t4, _⟩ := h.1
  have t3 : G 66 16 = nI (kdT (xC x i)) := t3
  have t4 : TKV (xC x i) (H 66 17) := t4
  obtain ⟨c0, c1, c2, c3⟩ := t4
  unfold w_223
  rw [t3]
  unfold kdT
  by_cases a : xC x i < 1000000
  · obtain ⟨m, m1, m2, m3⟩ := c1 a
    have wd : f_182 (H 66 17) y1 y2 = b1 (decide (lo ≤ m ∧ m ≤ hi)) := by
      rw [m2, e1, e2, ← nI_l (show m < 2 ^ 31 by omega)]
      exact wid (by omega) (by omega) (by omega)
    rw [if_pos a, if_pos (by decide), wd]
    refine ifd (fun c => ?_) (fun c => ?_)
    · exact q212fP hB h (fun G' g => k0 (by omega) _ G' g)
    · refine q212tP hx h (r3 (by omega)) (fun G' H' g => ?_)
      have k := k1 (by omega) (by omega) G' H' g
      rw [m2, lN_i, show m = xC x i by omega]
      exact k
  · rw [if_neg a]
    have nk : ¬ nI (if xC x i < 2000000 then 1 else if xC x i < 3000000 then 3 else 0) = 2 := by
      by_cases b : xC x i < 2000000
      · rw [if_pos b]; decide
      · rw [if_neg b]
        by_cases b2 : xC x i < 3000000
        · rw [if_pos b2]; decide
        · rw [if_neg b2]; decide
    rw [if_neg nk]
    exact q212fP hB h (fun G' g => k0 (by omega) _ G' g)
/-- in the midst of an order -/
def RQ (x : TX) (B : am_I) (LB : am_J) (l : List CLD) (mk : Nat → Nat → Nat) (kd : Nat) (fs : List FN) (m : Nat → Nat) (i q s : Nat) (M : Nat → Nat × Nat) (G : am_I) (H : am_J) : Prop := XOK (rb x G H) ∧ RP (rb x G H) i q s M G H ∧ frSx B G LB H ∧ l.length < 12 ∧ G 66 21 = nI (l.length + 1) ∧ TXr RWq (xw x) l s M mk G ∧ kd ≤ 3 ∧ G 97 (10 * l.length) = nI kd ∧ (∀ j, j < 3 → (j < fs.length → G 97 (10 * l.length + 1 + 2 * j) = nI (m j) ∧ G 97 (10 * l.length + 2 + 2 * j) = nI (m (j + 1))) ∧ (fs.length ≤ j → G 97 (10 * l.length + 1 + 2 * j) = 0 ∧ G 97 (10 * l.length + 2 + 2 * j) = 0)) ∧ pz (xw x) M (kd, 1, fs, none) m ∧ (∀ j, fs.length ≤ j → j < 5 → m j = s) ∧ ∀ j, j < 5 → m j ≤ s
theorem r293b {x : TX} {B : am_I} {LB : am_J} {j p : Nat} {G : am_I} {H : am_J} {K : am_I → am_J → Prop} {x0 : Int32} (ev : x0 = nI p) (hp : p < 119) (h : RBs x B LB j G H) (hK : ∀ G', RBs x B LB j G' H → K G' H) : w_293 x0 G H K := by
  have x1 : x0 + 1 = nI (p + 1) := by rw [ev]; exact (nI_succ p).symm
  unfold w_293
  refine ⟨nb_gdx ev (by omega) (by decide), ?_⟩
  rw [h.2.1]
  refine am_ifn (by decide) ⟨nb_gdx x1 (by omega) (by decide), hK _ (RBs_w h (fun c c1 c2 c3 => ?_) (fun k hk => ?_))⟩
  · rw [uu_h c3, uu_h c3]
  · rw [uu_c (by decide), uu_c (by decide)]
theorem r293 {x : TX} {B : am_I} {LB : am_J} {l : List CLD} {mk : Nat → Nat → Nat} {kd : Nat} {fs : List FN} {m : Nat → Nat} {i q s : Nat} {M : Nat → Nat × Nat} {G : am_I} {H : am_J} {K : am_I → am_J → Prop} {x0 : Int32} (ev : x0 = nI (10 * l.length + 1 + 2 * fs.length)) (hw : xw x = false) (hl : fs.length < 3) (h : RQ x B LB l mk kd fs m i q s M G H) (hF : ∀ j, smD (xC x) false 8 i q = (j, none) → ∀ G' H', RBs x B LB j G' H' → K G' H') (hS : ∀ j y, smD (xC x) false 8 i q = (j, some y) → ∀ m' s' M' G' H', RQ x B LB l mk kd (fs ++ [y.2]) m' j y.1 s' M' G' H' → K G' H') : w_293 x0 G H K := by
  obtain ⟨hx, hp, hf, h12, h21, ht, hk, e0, er, hz, hm, hb⟩ := h
  have x1 : x0 + 1 = nI (10 * l.length + 1 + 2 * fs.length + 1) := by rw [ev]; exact (nI_succ _).symm
  have e23 : G 66 23 = nI s := hp.2.2.2.2.2.1
  unfold w_293
  refine ⟨nb_gdx ev (by omega) (by decide), ?_⟩
  rw [hp.2.2.2.1, nb_cl ev (by omega), e23]
  refine am_ifp rfl ?_
  obtain ⟨G1, eG1⟩ : ∃ G1, G1 = am_u G 97 (10 * l.length + 1 + 2 * fs.length) (nI s) := ⟨_, rfl⟩
  rw [← eG1]
  have w1 : ∀ c, c ≠ 66 → c ≠ 76 → c ≠ 97 → G1 c = G c := fun c c1 c2 c3 => by rw [eG1, uu_h c3]
  have w2 : ∀ k, G1 66 k = G 66 k := fun k => by rw [eG1, uu_c (by decide)]
  obtain ⟨y1, y2⟩ := rb_w hx hp w1 (fun k _ => w2 k)
  have hf1 : frSx B G1 LB H := frSx_w hf w1 (fun k _ => w2 k)
  refine q213s y1 y2 (fun j e G3 H3 g3 => ?_) (fun j q' f e s' M' G3 H3 g3 m3 p3 => ?_)
  · have e : smD (xC x) (xw x) 8 i q = (j, none) := e
    rw [hw] at e
    exact ⟨nb_gdx x1 (by omega) (by decide), hF j e _ H3 (RBs_w (RBs_of hf1 g3) (fun c c1 c2 c3 => by rw [uu_h c3]) (fun k hk => by rw [uu_c (by decide)]))⟩
  · have e : smD (xC x) (xw x) 8 i q = (j, some (q', f)) := e
    rw [hw] at e
    refine ⟨nb_gdx x1 (by omega) (by decide), ?_⟩
    have f3 := g3.2.1
    have e23' : G3 66 23 = nI s' := g3.2.2.2.2.2.1
    have ps := p3.1
    have p3' : PC (xw x) M' s s' f 20 := p3
    rw [nb_cl x1 (by omega), e23']
    have k1 : XOK (rb x G3 H3) := (rb_ok y1 g3).1
    have k2 : RP (rb x G3 H3) j q' s' M' G3 H3 := (rb_ok y1 g3).2
    have x97 : G3 97 = G1 97 := f3.1 97 (by decide) (by decide) (by decide) (by decide) (by decide)
    obtain ⟨G4, eG4⟩ : ∃ G4, G4 = am_u G3 97 (10 * l.length + 1 + 2 * fs.length + 1) (nI s') := ⟨_, rfl⟩
    rw [← eG4]
    have v1 : ∀ c, c ≠ 66 → c ≠ 76 → c ≠ 97 → G4 c = G3 c := fun c c1 c2 c3 => by rw [eG4, uu_h c3]
    have v2' : ∀ k, G4 66 k = G3 66 k := fun k => by rw [eG4, uu_c (by decide)]
    obtain ⟨z1, z2⟩ := rb_w k1 k2 v1 (fun k _ => v2' k)
    have e21 : G3 66 21 = G1 66 21 := f3.2.1 21 (by unfold s66; omega)
    have o97 : ∀ k, k ≠ 10 * l.length + 1 + 2 * fs.length → k ≠ 10 * l.length + 1 + 2 * fs.length + 1 → G4 97 k = G 97 k := fun k k1 k2 => by rw [eG4, uu_n k2, x97, eG1, uu_n k1]
    have a97 : G4 97 (10 * l.length + 1 + 2 * fs.length) = nI s := by rw [eG4, uu_n (by omega), x97, eG1, uu_e]
    have b97 : G4 97 (10 * l.length + 1 + 2 * fs.length + 1) = nI s' := by rw [eG4, uu_e]
    have hz' : pz (xw x) M' (kd, 1, fs, none) m := pz_cg hz hb m3 (fun _ _ => rfl)
    refine hS j (q', f) e (fun j => if fs.length + 1 ≤ j then s' else m j) s' M' G4 H3 ⟨z1, z2, frSx_w (frSx_R hf1 f3) v1 (fun k _ => v2' k), h12, by rw [v2', e21, w2]; exact h21, TXr_97 ht m3 (by omega) p3'.2.1 (fun k hk => o97 k (by omega) (by omega)), hk, by rw [o97 _ (by omega) (by omega)]; exact e0, fun jj hj => ⟨fun j1 => ?_, fun j1 => ?_⟩, pz_s hz' hl hm p3', fun jj j1 j2 => ?_, fun jj hj => ?_⟩
    · rw [ln1] at j1
      by_cases ej : jj = fs.length
      · rw [ej]
        refine ⟨?_, ?_⟩
        · rw [a97]
          show nI s = nI (if fs.length + 1 ≤ fs.length then s' else m fs.length)
          rw [if_neg (by omega), hm fs.length (Nat.le_refl _) (by omega)]
        · rw [show 10 * l.length + 2 + 2 * fs.length = 10 * l.length + 1 + 2 * fs.length + 1 by omega, b97]
          show nI s' = nI (if fs.length + 1 ≤ fs.length + 1 then s' else m (fs.length + 1))
          rw [if_pos (Nat.le_refl _)]
      · obtain ⟨d1, d2⟩ := (er jj hj).1 (by omega)
        rw [o97 _ (by omega) (by omega), o97 _ (by omega) (by omega)]
        refine ⟨?_, ?_⟩
        · show G 97 (10 * l.length + 1 + 2 * jj) = nI (if fs.length + 1 ≤ jj then s' else m jj)
          rw [if_neg (by omega)]; exact d1
        · show G 97 (10 * l.length + 2 + 2 * jj) = nI (if fs.length + 1 ≤ jj + 1 then s' else m (jj + 1))
          rw [if_neg (by omega)]; exact d2
    · rw [ln1] at j1
      rw [o97 _ (by omega) (by omega), o97 _ (by omega) (by omega)]
      exact (er jj hj).2 (by omega)
    · rw [ln1] at j1
      exact if_pos j1
    · show (if fs.length + 1 ≤ jj then s' else m jj) ≤ s'
      by_cases c : fs.length + 1 ≤ jj
      · rw [if_pos c]; exact Nat.le_refl _
      · rw [if_neg c]
        have := hb jj hj
        omega
