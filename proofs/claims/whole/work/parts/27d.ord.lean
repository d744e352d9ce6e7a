/-! orders: the reference reads a clause: words, times, 'if' -/
theorem RQ_rb {x : TX} {B : am_I} {LB : am_J} {l : List CLD} {mk : Nat → Nat → Nat} {kd : Nat} {fs : List FN} {m : Nat → Nat} {i j q s : Nat} {M : Nat → Nat × Nat} {G G1 : am_I} {H H1 : am_J} (h : RQ x B LB l mk kd fs m i q s M G H) (g : RP (rb x G H) j q s M G1 H1) : RQ x B LB l mk kd fs m j q s M G1 H1 := by
  obtain ⟨hx, hp, hf, h12, h21, ht, hk, e0, er, hz, hm, hb⟩ := h
  have f := g.2.1
  have x97 : G1 97 = G 97 := f.1 97 (by decide) (by decide) (by decide) (by decide) (by decide)
  refine ⟨(rb_ok hx g).1, (rb_ok hx g).2, frSx_R hf f, h12, (f.2.1 21 (by unfold s66; omega)).trans h21, TXr_97 ht (fun _ _ => rfl) (Nat.le_refl _) (fun k k1 k2 => by omega) (fun k hk => by rw [x97]), hk, by rw [x97]; exact e0, fun jj hj => ?_, hz, hm, hb⟩
  rw [x97]
  exact er jj hj
theorem RQ_w {x : TX} {B : am_I} {LB : am_J} {l : List CLD} {mk : Nat → Nat → Nat} {kd p : Nat} {fs : List FN} {m : Nat → Nat} {i q s : Nat} {M : Nat → Nat × Nat} {G : am_I} {H : am_J} {v : Int32} (h : RQ x B LB l mk kd fs m i q s M G H) (hp7 : 10 * l.length + 7 ≤ p) : RQ x B LB l mk kd fs m i q s M (am_u G 97 p v) H := by
  obtain ⟨hx, hp, hf, h12, h21, ht, hk, e0, er, hz, hm, hb⟩ := h
  have w1 : ∀ c, c ≠ 66 → c ≠ 76 → c ≠ 97 → am_u G 97 p v c = G c := fun c c1 c2 c3 => by rw [uu_h c3]
  have w2 : ∀ k, am_u G 97 p v 66 k = G 66 k := fun k => by rw [uu_c (by decide)]
  obtain ⟨y1, y2⟩ := rb_w hx hp w1 (fun k _ => w2 k)
  refine ⟨y1, y2, frSx_w hf w1 (fun k _ => w2 k), h12, by rw [w2]; exact h21, TXr_97 ht (fun _ _ => rfl) (Nat.le_refl _) (fun k k1 k2 => by omega) (fun k hk => by rw [uu_n (by omega)]), hk, by rw [uu_n (by omega)]; exact e0, fun jj hj => ?_, hz, hm, hb⟩
  rw [uu_n (show 10 * l.length + 1 + 2 * jj ≠ p by omega), uu_n (show 10 * l.length + 2 + 2 * jj ≠ p by omega)]
  exact er jj hj
theorem r294b {x : TX} {B : am_I} {LB : am_J} {j p : Nat} {G : am_I} {H : am_J} {K : am_I → am_J → Prop} {x0 : Int32} {x1 : Int64} (ev : x0 = nI p) (hp : p < 119) (h : RBs x B LB j G H) (hK : ∀ G', RBs x B LB j G' H → K G' H) : w_294 x0 x1 G H K := by
  unfold w_294
  rw [h.2.1]
  exact am_ifn (by decide) (r293b ev hp h hK)
theorem r294 {x : TX} {B : am_I} {LB : am_J} {l : List CLD} {mk : Nat → Nat → Nat} {kd w : Nat} {fs : List FN} {m : Nat → Nat} {i q s : Nat} {M : Nat → Nat × Nat} {G : am_I} {H : am_J} {K : am_I → am_J → Prop} {x0 : Int32} {x1 : Int64} (ev : x0 = nI (10 * l.length + 1 + 2 * fs.length)) (hw : xw x = false) (hl : fs.length < 3) (hw3 : w < 32) (ew : x1 = lN (WC.getD w 0)) (h : RQ x B LB l mk kd fs m i q s M G H) (h0 : xC x i ≠ 1000000 + w → ∀ G' H', RBs x B LB i G' H' → K G' H') (hF : xC x i = 1000000 + w → ∀ j, smD (xC x) false 8 (i + 1) q = (j, none) → ∀ G' H', RBs x B LB j G' H' → K G' H') (hS : xC x i = 1000000 + w → ∀ j y, smD (xC x) false 8 (i + 1) q = (j, some y) → ∀ m' s' M' G' H', RQ x B LB l mk kd (fs ++ [y.2]) m' j y.1 s' M' G' H' → K G' H') : w_294 x0 x1 G H K := by
  have hq := h
  obtain ⟨hx, hp, hf, h12, h21, ht, hk, e0, er, hz, hm, hb⟩ := h
  unfold w_294
  rw [hp.2.2.2.1, show f_211 x1 G H = b1 (decide (xC x i = 1000000 + w)) from f211 (x := rb x G H) (j := w) hp.1 hw3 ew]
  refine am_ifp rfl ?_
  by_cases c : xC x i = 1000000 + w
  · rw [decide_eq_true c]
    have il := (RP_c hx hp).2.2.1 (by show xC x i ≠ 3000000; omega)
    refine q212tP hx hp il (fun G1 H1 g1 => ?_)
    exact r293 ev hw hl (RQ_rb hq g1) (hF c) (hS c)
  · rw [decide_eq_false c]
    exact q212fP hf hp (fun G1 g1 => r293b ev (by omega) g1 (fun G2 g2 => h0 c G2 H g2))
theorem r236b {x : TX} {B : am_I} {LB : am_J} {j c : Nat} {G : am_I} {H : am_J} {K : am_I → am_J → Prop} {v2 : Int32} (ev : v2 = nI (10 * c)) (hc : c < 12) (h : RBs x B LB j G H) (hK : ∀ G', RBs x B LB j G' H → K G' H) : wb_292_236 v2 G H K := by
  have x7 : v2 + 7 = nI (10 * c + 7) := by rw [ev, show (7 : Int32) = nI 7 from rfl, nb_add]
  have x8 : v2 + 8 = nI (10 * c + 8) := by rw [ev, show (8 : Int32) = nI 8 from rfl, nb_add]
  unfold wb_292_236
  refine ⟨nb_gdx x7 (by omega) (by decide), ?_⟩
  rw [h.2.1]
  refine am_ifn (by decide) ⟨nb_gdx x8 (by omega) (by decide), hK _ (RBs_w h (fun c c1 c2 c3 => ?_) (fun k hk => ?_))⟩
  · rw [uu_h c3, uu_h c3]
  · rw [uu_c (by decide), uu_c (by decide)]
def mkq (mk : Nat → Nat → Nat) (c : Nat) (m : Nat → Nat) : Nat → Nat → Nat := fun c' j => if c' = c then m j else mk c' j
theorem RQ_end {x : TX} {B : am_I} {LB : am_J} {l : List CLD} {mk : Nat → Nat → Nat} {kd tm : Nat} {fs : List FN} {m' : Nat → Nat} {s s' i q : Nat} {M : Nat → Nat × Nat} {G : am_I} {H : am_J} {t : Option FN} (hx : XOK (rb x G H)) (hp : RP (rb x G H) i q s' M G H) (hf : frSx B G LB H) (hl : l.length < 12) (h21 : G 66 21 = nI (l.length + 1)) (ht : TXr RWq (xw x) l s M mk G) (hs : s ≤ s') (hO : ∀ k, s ≤ k → k < s' → okM (xw x) k (M k)) (hr : RWq G l.length (kd, tm, fs, t) m') (hm : ∀ i, i < 5 → m' i ≤ s') (hz : pz (xw x) M (kd, tm, fs, t) m') : RS x RWq B LB (l ++ [(kd, tm, fs, t)]) (mkq mk l.length m') i q s' M G H := by
  refine ⟨hx, hp, hf, by rw [ln1]; omega, by rw [ln1]; exact h21, fun c cl e => ?_, fun k hk => ?_⟩
  rotate_left
  · by_cases z : k < s
    · exact ht.2 k z
    · exact hO k (by omega) hk
  rcases gix e with ⟨a, b⟩ | ⟨a, b⟩
  · obtain ⟨a1, a2, a3⟩ := ht.1 c cl b
    have em : mkq mk l.length m' c = mk c := by
      funext j
      show (if c = l.length then m' j else mk c j) = mk c j
      rw [if_neg (by omega)]
    rw [em]
    exact ⟨a1, fun i hi => Nat.le_trans (a2 i hi) hs, a3⟩
  · have em : mkq mk l.length m' c = m' := by
      funext j
      show (if c = l.length then m' j else mk c j) = m' j
      rw [if_pos a]
    rw [em, a, b]
    exact ⟨hr, hm, hz⟩
theorem r236 {x : TX} {B : am_I} {LB : am_J} {l : List CLD} {mk : Nat → Nat → Nat} {kd tm : Nat} {fs : List FN} {m : Nat → Nat} {i q s : Nat} {M : Nat → Nat × Nat} {G : am_I} {H : am_J} {K : am_I → am_J → Prop} {v2 : Int32} (ev : v2 = nI (10 * l.length)) (hw : xw x = false) (h : RQ x B LB l mk kd fs m i q s M G H) (e9 : G 97 (10 * l.length + 9) = nI tm) (t1 : 1 ≤ tm) (t2 : tm ≤ 20) (hF : ∀ j, ifP (xC x) false (kd, tm, fs, none) i q = (j, none) → ∀ G' H', RBs x B LB j G' H' → K G' H') (hS : ∀ j q' c, ifP (xC x) false (kd, tm, fs, none) i q = (j, some (q', c)) → ∀ mk s' M' G' H', RS x RWq B LB (l ++ [c]) mk j q' s' M' G' H' → K G' H') : wb_292_236 v2 G H K := by
  have x7 : v2 + 7 = nI (10 * l.length + 7) := by rw [ev, show (7 : Int32) = nI 7 from rfl, nb_add]
  have x8 : v2 + 8 = nI (10 * l.length + 8) := by rw [ev, show (8 : Int32) = nI 8 from rfl, nb_add]
  have h12 := h.2.2.2.1
  have e23 : G 66 23 = nI s := h.2.1.2.2.2.2.2.1
  unfold wb_292_236
  refine ⟨nb_gdx x7 (by omega) (by decide), ?_⟩
  rw [nb_cl x7 (by omega), e23, h.2.1.2.2.2.1]
  refine am_ifp rfl ?_
  have hq := RQ_w (p := 10 * l.length + 7) (v := nI s) h (Nat.le_refl _)
  have q9 : am_u G 97 (10 * l.length + 7) (nI s) 97 (10 * l.length + 9) = nI tm := by rw [uu_n (by omega)]; exact e9
  have q7 : am_u G 97 (10 * l.length + 7) (nI s) 97 (10 * l.length + 7) = nI s := uu_e
  obtain ⟨G1, eG1⟩ : ∃ G1, G1 = am_u G 97 (10 * l.length + 7) (nI s) := ⟨_, rfl⟩
  rw [← eG1] at hq q9 q7 ⊢
  obtain ⟨hx, hp, hf, _, h21, ht, hk, e0, er, hz, hm, hb⟩ := hq
  have fl3 : fs.length ≤ 3 := hz.1
  have m3 : m 3 = s := hm 3 fl3 (by decide)
  have m4 : m 4 = s := hm 4 (by omega) (by decide)
  rw [show f_211 294 G1 H = b1 (decide (xC x i = 1000000 + 8)) from f211 (x := rb x G1 H) (j := 8) hp.1 (by decide) rfl]
  refine ifd (fun c => ?_) (fun c => ?_)
  · refine ⟨nb_gdx x8 (by omega) (by decide), ?_⟩
    rw [nb_cl x8 (by omega)]
    have v1 : ∀ c, c ≠ 66 → c ≠ 76 → c ≠ 97 → am_u G1 97 (10 * l.length + 8) (nI s) c = G1 c := fun c c1 c2 c3 => by rw [uu_h c3]
    have v2' : ∀ k, am_u G1 97 (10 * l.length + 8) (nI s) 66 k = G1 66 k := fun k => by rw [uu_c (by decide)]
    obtain ⟨z1, z2⟩ := rb_w hx hp v1 (fun k _ => v2' k)
    have e23' : G1 66 23 = nI s := hp.2.2.2.2.2.1
    refine hS i q (kd, tm, fs, none) (by unfold ifP; rw [if_neg c]) _ s M _ H (RQ_end (m' := m) z1 z2 (frSx_w hf v1 (fun k _ => v2' k)) h12 (by rw [v2']; exact h21) (TXr_97 ht (fun _ _ => rfl) (Nat.le_refl _) (fun k k1 k2 => by omega) (fun k hk => by rw [uu_n (by omega)])) (Nat.le_refl _) (fun k k1 k2 => by omega) ⟨hk, t1, t2, by rw [uu_n (by omega)]; exact e0, by rw [uu_n (by omega)]; exact q9, fun j hj => ?_, by rw [uu_n (by omega), q7, m3], by rw [uu_e, m4]⟩ hb hz)
    obtain ⟨d1, d2⟩ := er j hj
    rw [uu_n (show 10 * l.length + 1 + 2 * j ≠ 10 * l.length + 8 by omega), uu_n (show 10 * l.length + 2 + 2 * j ≠ 10 * l.length + 8 by omega)]
    exact ⟨d1, fun z => (d2 z).1.trans (d2 z).2.symm⟩
  · have il := (RP_c hx hp).2.2.1 (by show xC x i ≠ 3000000; omega)
    have ep : ifP (xC x) false (kd, tm, fs, none) i q = bd (tsD (xC x) false 8 (i + 1) q) (fun j y => (j, some (y.1, (kd, tm, fs, some y.2)))) := by
      unfold ifP
      rw [if_pos c]
    refine qnxP hx hp il (fun G2 H2 g2 => ?_)
    refine q213t hx g2 (fun j e G3 H3 g3 => ?_) (fun j q' f e s' M' G3 H3 g3 m3' p3 => ?_)
    · have e : tsD (xC x) (xw x) 8 (i + 1) q = (j, none) := e
      rw [hw] at e
      exact ⟨nb_gdx x8 (by omega) (by decide), hF j (by rw [ep, e]; rfl) _ H3 (RBs_w (RBs_of hf g3) (fun c c1 c2 c3 => by rw [uu_h c3]) (fun k hk => by rw [uu_c (by decide)]))⟩
    · have e : tsD (xC x) (xw x) 8 (i + 1) q = (j, some (q', f)) := e
      rw [hw] at e
      refine ⟨nb_gdx x8 (by omega) (by decide), ?_⟩
      have f3 := g3.2.1
      have e23' : G3 66 23 = nI s' := g3.2.2.2.2.2.1
      have ps := p3.1
      have p3' : PC (xw x) M' s s' f 20 := p3
      rw [nb_cl x8 (by omega), e23']
      have k1 : XOK (rb x G3 H3) := (rb_ok hx g3).1
      have k2 : RP (rb x G3 H3) j q' s' M' G3 H3 := (rb_ok hx g3).2
      have x97 : G3 97 = G1 97 := f3.1 97 (by decide) (by decide) (by decide) (by decide) (by decide)
      have v1 : ∀ c, c ≠ 66 → c ≠ 76 → c ≠ 97 → am_u G3 97 (10 * l.length + 8) (nI s') c = G3 c := fun c c1 c2 c3 => by rw [uu_h c3]
      have v2' : ∀ k, am_u G3 97 (10 * l.length + 8) (nI s') 66 k = G3 66 k := fun k => by rw [uu_c (by decide)]
      obtain ⟨z1, z2⟩ := rb_w k1 k2 v1 (fun k _ => v2' k)
      have e21 : G3 66 21 = G1 66 21 := f3.2.1 21 (by unfold s66; omega)
      have hz' : pz (xw x) M' (kd, 1, fs, none) m := pz_cg hz hb m3' (fun _ _ => rfl)
      refine hS j q' (kd, tm, fs, some f) (by rw [ep, e]; rfl) _ s' M' _ H3 (RQ_end (m' := fun j => if 4 ≤ j then s' else m j) z1 z2 (frSx_w (frSx_R hf f3) v1 (fun k _ => v2' k)) h12 (by rw [v2', e21]; exact h21) (TXr_97 ht m3' (Nat.le_refl _) (fun k k1 k2 => by omega) (fun k hk => by rw [uu_n (by omega), x97])) (by omega) p3'.2.1 ⟨hk, t1, t2, by rw [uu_n (by omega), x97]; exact e0, by rw [uu_n (by omega), x97]; exact q9, fun jj hj => ?_, ?_, ?_⟩ (fun jj hj => ?_) (pz_t hz' m3 p3'))
      · obtain ⟨d1, d2⟩ := er jj hj
        rw [uu_n (show 10 * l.length + 1 + 2 * jj ≠ 10 * l.length + 8 by omega), uu_n (show 10 * l.length + 2 + 2 * jj ≠ 10 * l.length + 8 by omega), x97]
        refine ⟨fun z => ?_, fun z => (d2 z).1.trans (d2 z).2.symm⟩
        show G1 97 (10 * l.length + 1 + 2 * jj) = nI (if 4 ≤ jj then s' else m jj) ∧ G1 97 (10 * l.length + 2 + 2 * jj) = nI (if 4 ≤ jj + 1 then s' else m (jj + 1))
        rw [if_neg (by omega), if_neg (by omega)]
        exact d1 z
      · rw [uu_n (by omega), x97, q7]
        show nI s = nI (if 4 ≤ 3 then s' else m 3)
        rw [if_neg (by decide), m3]
      · rw [uu_e]
        show nI s' = nI (if 4 ≤ 4 then s' else m 4)
        rw [if_pos (by decide)]
      · show (if 4 ≤ jj then s' else m jj) ≤ s'
        by_cases c4 : 4 ≤ jj
        · rw [if_pos c4]; exact Nat.le_refl _
        · rw [if_neg c4]
          have := hb jj hj
          omega
