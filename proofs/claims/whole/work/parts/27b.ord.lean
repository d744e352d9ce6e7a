/-! orders: the class reads a clause -/
theorem c72 {n : Nat} {C : Nat → Nat} {B : am_I} : CCL n C false B (clO C) w_72 := by
  intro l mk i q s M G K hl h hF hS
  have e8 := h.1.2.2.2.2.2.1
  have cl := BC_le h.2.1 h.1.1
  unfold w_72
  rw [e8, show (nI (C i) - 1000000) - 4 = nI (C i) - nI 1000004 by rw [show (1000000 : Int32) = nI 1000000 from rfl, show (4 : Int32) = nI 4 from rfl, Int32.sub_sub, nb_add], show f_13 (nI (C i) - nI 1000004) 0 3 = b1 (decide (1000004 + 0 ≤ C i ∧ C i ≤ 1000004 + 3)) from f13s (k := 1000004) (a := 0) (b := 3) cl (by decide) (by decide) (by decide)]
  refine ifd (fun c => ?_) (fun c => ?_)
  · refine hF i ?_ G (CS_CF h)
    unfold clO
    rw [if_neg (by omega), if_neg (by omega), if_neg (by omega)]
  · rw [nb_sub (by omega)]
    obtain ⟨kd, ekd⟩ : ∃ kd, kd = C i - 1000004 := ⟨_, rfl⟩
    rw [← ekd]
    refine q56 h hl (by omega) (fun G1 h1 => ?_)
    have h1' := h1
    obtain ⟨mk1, c1, _⟩ := h1'
    refine q58 c1.2.1 c1.1 (by omega) (fun il G2 g2 => ?_)
    have h2 := co_rb h1 g2 (by omega)
    by_cases k0 : kd = 0
    · rw [k0] at h2 ⊢
      refine am_ifp rfl ?_
      have ep : clO C i q = bd (smD C false 8 (i + 1) q) (fun j y => if C j = 1000010 then bd (smD C false 8 (j + 1) y.1) (fun j2 y2 => tmP C (0, 1, [y.2, y2.2], none) j2 y2.1) else (j, none)) := by
        unfold clO
        rw [if_pos (by omega)]
      refine q73 (w := 10) h2 (by show 0 < 3; decide) rfl (Or.inr ⟨by decide, by decide, rfl⟩) (fun j e G3 g3 => ?_) (fun j y e _ c3 G3 g3 => ?_) (fun j y e c3 s3 M3 G3 h3 => ?_)
      · exact am_ifp rfl (hF j (by rw [ep, e]; rfl) G3 g3)
      · refine am_ifp rfl (hF j ?_ G3 g3)
        rw [ep, e]
        show (if C j = 1000010 then bd (smD C false 8 (j + 1) y.1) (fun j2 y2 => tmP C (0, 1, [y.2, y2.2], none) j2 y2.1) else (j, none)) = _
        rw [if_neg c3]
      · rw [if_neg (by decide)] at h3
        have e2 : clO C i q = bd (smD C false 8 (j + 1) y.1) (fun j2 y2 => tmP C (0, 1, [y.2, y2.2], none) j2 y2.1) := by
          rw [ep, e]
          show (if C j = 1000010 then bd (smD C false 8 (j + 1) y.1) (fun j2 y2 => tmP C (0, 1, [y.2, y2.2], none) j2 y2.1) else (j, none)) = _
          rw [if_pos (c3 (by decide))]
        refine am_ifn (by decide) ?_
        refine q73 (w := 0) h3 (by show 1 < 3; decide) rfl (Or.inl ⟨rfl, rfl⟩) (fun j2 e3 G4 g4 => ?_) (fun j2 y2 e3 z => by omega) (fun j2 y2 e3 c4 s4 M4 G4 h4 => ?_)
        · exact am_ifp rfl (hF j2 (by rw [e2, e3]; rfl) G4 g4)
        · rw [if_pos rfl] at h4
          have e4 : clO C i q = tmP C (0, 1, [y.2, y2.2], none) j2 y2.1 := by
            rw [e2, e3]
            rfl
          refine am_ifn (by decide) ?_
          exact q74 h4 (by show 2 ≤ 3; decide) (fun j5 e5 => hF j5 (e4.trans e5)) (fun j5 q5 c5 e5 => hS j5 q5 c5 (e4.trans e5))
    · refine am_ifn (fun z => k0 ((nb_inj (a := kd) (b := 0) (by omega) (by decide)).mp z)) ?_
      by_cases k1 : kd = 1
      · rw [k1] at h2 ⊢
        refine am_ifp rfl ?_
        have ep : clO C i q = bd (smD C false 8 (i + 1) q) (fun j y => if C j = 1000011 then bd (smD C false 8 (j + 1) y.1) (fun j2 y2 => gvP C y.2 y2.2 j2 y2.1) else (j, none)) := by
          unfold clO
          rw [if_neg (by omega), if_pos (by omega)]
        refine q73 (w := 11) h2 (by show 0 < 3; decide) rfl (Or.inr ⟨by decide, by decide, rfl⟩) (fun j e G3 g3 => ?_) (fun j y e _ c3 G3 g3 => ?_) (fun j y e c3 s3 M3 G3 h3 => ?_)
        · exact am_ifp rfl (hF j (by rw [ep, e]; rfl) G3 g3)
        · refine am_ifp rfl (hF j ?_ G3 g3)
          rw [ep, e]
          show (if C j = 1000011 then bd (smD C false 8 (j + 1) y.1) (fun j2 y2 => gvP C y.2 y2.2 j2 y2.1) else (j, none)) = _
          rw [if_neg c3]
        · rw [if_neg (by decide)] at h3
          have e2 : clO C i q = bd (smD C false 8 (j + 1) y.1) (fun j2 y2 => gvP C y.2 y2.2 j2 y2.1) := by
            rw [ep, e]
            show (if C j = 1000011 then bd (smD C false 8 (j + 1) y.1) (fun j2 y2 => gvP C y.2 y2.2 j2 y2.1) else (j, none)) = _
            rw [if_pos (c3 (by decide))]
          refine am_ifn (by decide) ?_
          refine q73 (w := 12) h3 (by show 1 < 3; decide) rfl (Or.inr ⟨by decide, by decide, rfl⟩) (fun j2 e3 G4 g4 => ?_) (fun j2 y2 e3 _ c4 G4 g4 => ?_) (fun j2 y2 e3 c4 s4 M4 G4 h4 => ?_)
          · exact am_ifp rfl (hF j2 (by rw [e2, e3]; rfl) G4 g4)
          · refine am_ifp rfl (hF j2 ?_ G4 g4)
            rw [e2, e3]
            show gvP C y.2 y2.2 j2 y2.1 = _
            unfold gvP
            rw [if_neg c4]
          · rw [if_neg (by decide)] at h4
            have e4 : clO C i q = bd (smD C false 8 (j2 + 1) y2.1) (fun j3 y3 => tmP C (1, 1, [y.2, y2.2, y3.2], none) j3 y3.1) := by
              rw [e2, e3]
              show gvP C y.2 y2.2 j2 y2.1 = _
              unfold gvP
              rw [if_pos (c4 (by decide))]
            refine am_ifn (by decide) ?_
            refine q73 (w := 0) h4 (by show 2 < 3; decide) rfl (Or.inl ⟨rfl, rfl⟩) (fun j3 e5 G5 g5 => ?_) (fun j3 y3 e5 z => by omega) (fun j3 y3 e5 c5 s5 M5 G5 h5 => ?_)
            · exact am_ifp rfl (hF j3 (by rw [e4, e5]; rfl) G5 g5)
            · rw [if_pos rfl] at h5
              have e6 : clO C i q = tmP C (1, 1, [y.2, y2.2, y3.2], none) j3 y3.1 := by
                rw [e4, e5]
                rfl
              refine am_ifn (by decide) ?_
              exact q74 h5 (by show 3 ≤ 3; decide) (fun j5 e5 => hF j5 (e6.trans e5)) (fun j5 q5 c5 e5 => hS j5 q5 c5 (e6.trans e5))
      · refine am_ifn (fun z => k1 ((nb_inj (a := kd) (b := 1) (by omega) (by decide)).mp z)) ?_
        have ep : clO C i q = tmP C (kd, 1, [], none) (i + 1) q := by
          unfold clO
          rw [if_neg (by omega), if_neg (by omega), if_pos (by omega), ekd]
        exact q74 h2 (by show 0 ≤ 3; decide) (fun j5 e5 => hF j5 (ep.trans e5)) (fun j5 q5 c5 e5 => hS j5 q5 c5 (ep.trans e5))
