/-! orders: clauses on paper; the class reads them -/
def tmP (C : Nat → Nat) (cl : CLD) (i q : Nat) : Rc := if C i = 1000009 then (if 1 ≤ C (i + 1) ∧ C (i + 1) ≤ 20 then ifP C false (cl.1, C (i + 1), cl.2.2.1, none) (i + 2) q else (i + 1, none)) else ifP C false cl i q
def gvP (C : Nat → Nat) (f g : FN) (i q : Nat) : Rc := if C i = 1000012 then bd (smD C false 8 (i + 1) q) (fun j y => tmP C (1, 1, [f, g, y.2], none) j y.1) else (i, none)
def clO (C : Nat → Nat) (i q : Nat) : Rc :=
  if C i = 1000004 then bd (smD C false 8 (i + 1) q) (fun j y => if C j = 1000010 then bd (smD C false 8 (j + 1) y.1) (fun j2 y2 => tmP C (0, 1, [y.2, y2.2], none) j2 y2.1) else (j, none))
  else if C i = 1000005 then bd (smD C false 8 (i + 1) q) (fun j y => if C j = 1000011 then bd (smD C false 8 (j + 1) y.1) (fun j2 y2 => gvP C y.2 y2.2 j2 y2.1) else (j, none))
  else if C i = 1000006 ∨ C i = 1000007 then tmP C (C i - 1000004, 1, [], none) (i + 1) q
  else (i, none)
/-- a sum and the word behind it, by the class -/
theorem q73 {n : Nat} {C : Nat → Nat} {B : am_I} {l : List CLD} {kd tm w : Nat} {fs : List FN} {i q s : Nat} {M : Nat → Nat × Nat} {G : am_I} {K : Int32 → am_I → Prop} {x0 x1 : Int32} (h : CO n C false B l kd tm fs i q s M G) (hl : fs.length < 3) (e0 : x0 = nI (fs.length + 1)) (e1 : (w = 0 ∧ x1 = -1) ∨ (1 ≤ w ∧ w < 32 ∧ x1 = nI w)) (hF : ∀ j, smD C false 8 i q = (j, none) → ∀ G', CF n B j G' → K 0 G') (hW : ∀ j y, smD C false 8 i q = (j, some y) → 1 ≤ w → C j ≠ 1000000 + w → ∀ G', CF n B j G' → K 0 G') (hS : ∀ j y, smD C false 8 i q = (j, some y) → (1 ≤ w → C j = 1000000 + w) → ∀ s' M' G', CO n C false B l kd tm (fs ++ [y.2]) (if w = 0 then j else j + 1) y.1 s' M' G' → K 1 G') : w_73 x0 x1 G K := by
  have h' := h
  obtain ⟨mk2, c2, _⟩ := h'
  unfold w_73
  refine cx59 c2.2.1 i q s M G _ c2.2.2.2.2 c2.1 (fun j e G3 g3 => ?_) (fun j q' f e s' M' G3 g3 m3 l3 p3 => ?_)
  · exact am_ifp rfl (hF j e G3 (CF_of c2.2.2.1 g3))
  · refine am_ifn (by decide) ?_
    rw [e0]
    refine co_s h hl g3 m3 l3 p3 (fun G4 h4 => ?_)
    rcases e1 with ⟨w0, ex⟩ | ⟨w1, w2, ex⟩
    · rw [ex]
      refine am_ifp rfl ?_
      have k := hS j (q', f) e (fun z => by omega) s' M' G4
      rw [if_pos w0] at k
      exact k h4
    · rw [ex]
      refine am_ifn (nb_m1 (by omega)) ?_
      rw [show (1000000 : Int32) = nI 1000000 from rfl, nb_add]
      have h4' := h4
      obtain ⟨mk4, c4, _⟩ := h4'
      refine q62 (x := 1000000 + w) c4.2.1 c4.1 (by omega) (fun c => ?_) (fun c il G5 g5 => ?_)
      · exact am_ifp rfl (hW j (q', f) e w1 c G4 (CS_CF c4))
      · refine am_ifn (by decide) ?_
        have k := hS j (q', f) e (fun _ => c) s' M' G5
        rw [if_neg (by omega)] at k
        exact k (co_rb h4 g5 (by omega))
/-- the times, by the class: a clause's number of times is another -/
theorem CS_tm {n : Nat} {C : Nat → Nat} {law : Bool} {B : am_I} {l : List CLD} {kd tm tm' : Nat} {fs : List FN} {i q s : Nat} {M : Nat → Nat × Nat} {G : am_I} (h : CO n C law B l kd tm fs i q s M G) (h1 : 1 ≤ tm') (h2 : tm' ≤ 20) : CO n C law B l kd tm' fs i q s M (am_u G 19 l.length (nI tm')) := by
  obtain ⟨mk, ⟨⟨r1, r2, r3, r4, r5, r6, r7, r8, r9⟩, ⟨b1', b2, b3, b4, b5⟩, h3, ⟨t1, t2, t3, t4⟩, h5⟩, hm⟩ := h
  rw [ln1] at t1 t2
  refine ⟨mk, ⟨⟨r1, r2, r3, ⟨fun _ _ _ _ => rfl, fun _ _ _ _ => rfl, fun _ _ => rfl⟩, by rw [uu_c (by decide)]; exact r5, by rw [uu_c (by decide)]; exact r6, by rw [uu_c (by decide)]; exact r7, by rw [uu_c (by decide)]; exact r8, fun k hk => by rw [uu_c (by decide)]; exact r9 k hk⟩, ⟨b1', fun k hk => by rw [uu_c (by decide)]; exact b2 k hk, b3, b4, by rw [uu_c (by decide)]; exact b5⟩, ⟨fun c c1 c2 c3 c4 c5 c6 => by rw [uu_h c5]; exact h3.1 c c1 c2 c3 c4 c5 c6, fun k k1 k2 k3 => by rw [uu_c (by decide)]; exact h3.2.1 k k1 k2 k3, fun k k1 k2 => by rw [uu_c (by decide)]; exact h3.2.2 k k1 k2⟩, ⟨by rw [ln1]; exact t1, by rw [ln1, uu_c (by decide)]; exact t2, fun c x e => ?_, t4⟩, h5⟩, hm⟩
  rcases gix e with ⟨a, b⟩ | ⟨a, b⟩
  · obtain ⟨a1, a2, a3, a4, a5, a6, a7⟩ := t3 c x (by rw [List.getElem?_append_left a]; exact b)
    exact ⟨a1, a2, a3, by rw [uu_c (by decide)]; exact a4, by rw [uu_n (by omega)]; exact a5, fun i hi => by rw [uu_c (by decide)]; exact a6 i hi, a7⟩
  · obtain ⟨a1, a2, a3, a4, a5, a6, a7⟩ := t3 l.length _ gixe
    rw [b, a]
    exact ⟨a1, h1, h2, by rw [uu_c (by decide)]; exact a4, uu_e, fun i hi => by rw [uu_c (by decide)]; exact a6 i hi, a7⟩
/-- times, and 'if' -/
theorem q74 {n : Nat} {C : Nat → Nat} {B : am_I} {l : List CLD} {kd : Nat} {fs : List FN} {i q s : Nat} {M : Nat → Nat × Nat} {G : am_I} {K : Int32 → am_I → Prop} (h : CO n C false B l kd 1 fs i q s M G) (hf : fs.length ≤ 3) (hF : ∀ j, tmP C (kd, 1, fs, none) i q = (j, none) → ∀ G', CF n B j G' → K 0 G') (hS : ∀ j q' c, tmP C (kd, 1, fs, none) i q = (j, some (q', c)) → ∀ mk s' M' G', CS n C false B (l ++ [c]) mk j q' s' M' G' → K 1 G') : w_74 G (fun q21 I22 => if q21 = 0 then K 0 I22 else w_67 I22 (fun q23 I24 => if q23 = 0 then K 0 I24 else K 1 I24)) := by
  have iff : ∀ tm i G, CO n C false B l kd tm fs i q s M G → (∀ j, ifP C false (kd, tm, fs, none) i q = (j, none) → ∀ G', CF n B j G' → K 0 G') → (∀ j q' c, ifP C false (kd, tm, fs, none) i q = (j, some (q', c)) → ∀ mk s' M' G', CS n C false B (l ++ [c]) mk j q' s' M' G' → K 1 G') → w_67 G (fun q23 I24 => if q23 = 0 then K 0 I24 else K 1 I24) := by
    intro tm i G h kF kS
    exact q67 h hf (fun j e G' g => am_ifp rfl (kF j e G' g)) (fun j q' c e mk s' M' G' g => am_ifn (by decide) (kS j q' c e mk s' M' G' g))
  have h' := h
  obtain ⟨mk, c1, hm⟩ := h'
  unfold w_74
  refine q62 (x := 1000009) c1.2.1 c1.1 (by decide) (fun c => ?_) (fun c il G1 g1 => ?_)
  · have e : tmP C (kd, 1, fs, none) i q = ifP C false (kd, 1, fs, none) i q := by
      unfold tmP
      rw [if_neg c]
    exact am_ifp rfl (am_ifn (by decide) (iff 1 i G h (fun j e' => hF j (e.trans e')) (fun j q' c e' => hS j q' c (e.trans e'))))
  · refine am_ifn (by decide) ?_
    have h1 := co_rb h g1 (by omega)
    have h1' := h1
    obtain ⟨mk1, c2, _⟩ := h1'
    have cl := BC_le c2.2.1 c2.1.1
    have e8 : G1 14 8 = nI (C (i + 1)) := c2.1.2.2.2.2.2.1
    rw [e8, show f_13 (nI (C (i + 1))) 1 20 = b1 (decide (1 ≤ C (i + 1) ∧ C (i + 1) ≤ 20)) from f13n (a := 1) (b := 20) (by omega) (by decide) (by decide)]
    refine ifd (fun d => ?_) (fun d => ?_)
    · exact am_ifp rfl (hF (i + 1) (by unfold tmP; rw [if_pos c, if_neg d]) G1 (CS_CF c2))
    · have e : tmP C (kd, 1, fs, none) i q = ifP C false (kd, C (i + 1), fs, none) (i + 2) q := by
        unfold tmP
        rw [if_pos c, if_pos d]
      obtain ⟨y1, y2, y3⟩ := CS_16 c2
      unfold w_75
      rw [y2, if_neg (show ¬ nI (l.length + 1) ≤ 0 from nI_ge (a := 0) (by omega) (by omega)), show nI (l.length + 1) - 1 = nI l.length from nI_sub (c := 1) (by omega)]
      refine ⟨nb_gd y1 (by decide), ?_⟩
      rw [nI_clamp (by omega)]
      have h2 := CS_tm h1 d.1 d.2
      have h2' := h2
      obtain ⟨mk3, c3, _⟩ := h2'
      refine q58 c3.2.1 c3.1 (by omega) (fun il G3 g3 => ?_)
      exact am_ifn (by decide) (iff _ _ G3 (co_rb h2 g3 (by omega)) (fun j e' => hF j (e.trans e')) (fun j q' c e' => hS j q' c (e.trans e')))
