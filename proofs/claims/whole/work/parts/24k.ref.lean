/-! the reference reads: sums by depth -/
theorem XTN {x : TX} (hx : XOK x) : TN (xR x).length (xC x) := ⟨hx.1.2.1, hx.1.2.2.2.2.2.2⟩
theorem ptP_c {C : Nat → Nat} {law : Bool} {inn : Nat → Nat → Rs} {i q : Nat} (c : C i ≠ 2000091) : ptP C law inn i q = ptP C law inN i q := by
  unfold ptP
  rw [if_neg c, if_neg c]
theorem ptP_b {C : Nat → Nat} {law : Bool} {inn : Nat → Nat → Rs} {i q : Nat} (c : C i = 2000091) : ptP C law inn i q = inn i q := by
  unfold ptP
  rw [if_pos c]
theorem FS_0 {x : TX} {lvl s s' D j q : Nat} {M M' : Nat → Nat × Nat} {P : List (Nat × Nat)} {f : FN} {G : am_I} {H : am_J} (h : RR x j j q s' M' P G H) (hM : ∀ k, k < s → M' k = M k) (hp : PC (xw x) M' s s' f D) : FSx x lvl s M P f D j q G H := ⟨[], M', s', h, fun y hy => absurd hy (by simp), hM, hp⟩
theorem rt_pt0 {x : TX} {x0 : Int32} (hx : XOK x) : RT x x0 1 3 3 7 1 0 (fun _ => True) (ptP (xC x) (xw x) inN) := by
  intro i q s M P E hP hd _ hF hS u uu t G H st
  obtain ⟨et, g⟩ := st
  have r2 := (RR_c hx g).2.1
  obtain ⟨u', rfl⟩ : ∃ u', u = u' + 1 := ⟨u - 1, by omega⟩
  rw [et]
  refine lw1 g.2.2.2.1 (q218 hx g (fun c b G' H' r => ?_) (fun c b => ?_) (fun c j e G' H' r => ?_) (fun c j q' f e M' G' H' r m p => ?_))
  · exact lw_bad r (hF i (by rw [ptP_b c]; rfl)) (by omega)
  · omega
  · exact lw_bad r (hF j e) (by omega)
  · have a := ptP_adv (law := xw x) (XTN hx) inN_adv i q j (q', f) r2 e
    exact hS j q' f e u' (by omega) 3 G' H' ⟨rfl, FS_0 r m p⟩
theorem rt_pt1 {x : TX} {x0 : Int32} {D d : Nat} {X : Nat → Nat → Rs} (hx : XOK x) (hD : 1 ≤ D) (hX : adv (xR x).length (sEnd (xC x)) X) (h : RT x x0 1 3 3 5 D d (fun _ => True) X) : RT x x0 1 3 3 7 D (d + 1) (fun _ => True) (ptP (xC x) (xw x) (inO (xC x) 2000093 X)) := by
  intro i q s M P E hP hd _ hF hS u uu t G H st
  obtain ⟨et, g⟩ := st
  obtain ⟨r1, r2, r3, r4⟩ := RR_c hx g
  obtain ⟨u', rfl⟩ : ∃ u', u = u' + 1 := ⟨u - 1, by omega⟩
  rw [et]
  refine lw1 g.2.2.2.1 (q218 hx g (fun c b G' H' r => ?_) (fun c b G' H' r => ?_) (fun c j e G' H' r => ?_) (fun c j q' f e M' G' H' r m p => ?_))
  · omega
  · have il := r3 (by omega)
    refine h (i + 1) q s M ((32, 0) :: P) E (by show bnN 32 < 5; decide) (by show (if 31 ≤ 32 then 1 else 0) + brk P + d = 8; rw [if_pos (by decide)]; omega) trivial (fun j e => ?_) (fun j q' f e => ?_) u' (by omega) 1 G' H' ⟨rfl, r⟩
    · refine hF j ?_
      rw [ptP_b c]
      unfold inO
      rw [e]
      rfl
    · have hp : ptP (xC x) (xw x) (inO (xC x) 2000093 X) i q = (if xC x j = 2000093 then (j + 1, some (q', f)) else (j, none)) := by
        rw [ptP_b c]
        unfold inO
        rw [e]
        rfl
      obtain ⟨a1, a2, a3⟩ := hX (i + 1) q j (q', f) il e
      intro u2 uu2 t2 G2 H2 st2
      obtain ⟨et2, fs⟩ := st2
      obtain ⟨A, M2, s2, g1, g2, g3, g4⟩ := fs
      obtain ⟨v1, v2, v3, v4⟩ := RR_c hx g1
      obtain ⟨u3, rfl⟩ : ∃ u3, u2 = u3 + 1 := ⟨u2 - 1, by omega⟩
      rw [et2]
      refine lw3 g1.2.2.2.1 (q224o g1.1 (fun _ => ?_) (fun c4 c8 => absurd ⟨c4, c8⟩ a3))
      unfold wb_224_71
      rw [if_pos rfl]
      refine q227 g1.2.2.2.2.2.2.2.1 ?_
      have ei : inr (A ++ (32, 0) :: P) = 32 := by
        rw [inr_app A _ (fun y hy => bn_br (by have := g2 y hy; omega))]
        show (if 31 ≤ 32 then nI 32 else inr P) = 32
        rw [if_pos (by decide)]
        rfl
      rw [ei, if_pos rfl, show f_216 93 G2 H2 = b1 (decide (xC x j = 2000000 + 93)) from f216 (ch := 93) g1.1 (by decide) rfl]
      refine q212 hx g1 (fun c => v3 (by omega)) (fun c G3 r3 => ?_) (fun c G3 H3 r3 => ?_)
      · rw [if_neg (by omega)] at hp
        rw [r3.2.1]
        exact am_ifn (by decide) (lw_bad r3 (hF j hp) (by omega))
      · rw [if_pos (by omega)] at hp
        have jl := v3 (by omega)
        rw [r3.2.2.2.1]
        refine am_ifp rfl (q226s (lvl := 5) r3 (by decide) (by decide) (by show bnN 32 < 5; decide) g2 (fun G4 r4' => ?_))
        exact hS (j + 1) q' f hp u3 (by omega) 3 _ H3 ⟨rfl, FS_0 (RR_e (RR_cl r4' (by decide)) (by omega) (by omega)) g3 g4⟩
  · exact lw_bad r (hF j (by rw [ptP_c c]; exact e)) (by omega)
  · have a := ptP_adv (law := xw x) (XTN hx) inN_adv i q j (q', f) r2 e
    exact hS j q' f (by rw [ptP_c c]; exact e) u' (by omega) 3 G' H' ⟨rfl, FS_0 r m (PC_up p hD)⟩
theorem rt_sm {x : TX} {x0 : Int32} (hx : XOK x) : ∀ d, RT x x0 1 3 3 5 (2 * d + 3) d (fun _ => True) (smD (xC x) (xw x) d)
  | 0 => rt_lo hx (Or.inl ⟨rfl, rfl, rfl⟩) (rt_lo hx (Or.inr ⟨rfl, rfl, rfl⟩) (rt_pt0 hx))
  | d + 1 => rt_lo hx (Or.inl ⟨rfl, rfl, rfl⟩) (rt_lo hx (Or.inr ⟨rfl, rfl, rfl⟩) (rt_pt1 hx (by omega) (smD_adv (XTN hx) d) (rt_sm hx d)))
