/-! the class reads: contracts, loops -/
/-- what a reader does, by the paper X -/
def CT (n : Nat) (C : Nat → Nat) (law : Bool) (B : am_I) (D : Nat) (X : Nat → Nat → Rs) (w : am_I → (Int32 → am_I → Prop) → Prop) : Prop := ∀ (i q s : Nat) (M : Nat → Nat × Nat) (G : am_I) (K : Int32 → am_I → Prop), s ≤ i → RD n C B i q s M G → (∀ j, X i q = (j, none) → ∀ G', RF n B j G' → K 0 G') → (∀ j q' f, X i q = (j, some (q', f)) → ∀ s' M' G', RD n C B j q' s' M' G' → (∀ k, k < s → M' k = M k) → s' + i ≤ s + j → PC law M' s s' f D → K 1 G') → w G K
theorem l59 {n : Nat} {C : Nat → Nat} {law : Bool} {B : am_I} {D : Nat} {X : Nat → Nat → Rs} {W : Nat → Int32 → am_I → (Int32 → am_I → Prop) → Prop} {o : Int32} (hB : BC n C law B) (h : CT n C law B D X (W 60 o)) {i0 s0 : Nat} {M0 : Nat → Nat × Nat} {K : Int32 → am_I → Prop} (Y : Rs) (hs0 : s0 ≤ i0) (hF : ∀ j, Y = (j, none) → ∀ G', RF n B j G' → K 0 G') (hS : ∀ j q' f, Y = (j, some (q', f)) → ∀ s' M' G', RD n C B j q' s' M' G' → (∀ k, k < s0 → M' k = M0 k) → s' + i0 ≤ s0 + j → PC law M' s0 s' f (D + 1) → K 1 G') : ∀ m v i q s M G f, v + m = 400 → s + i0 ≤ s0 + i → RD n C B i q s M G → (∀ k, k < s0 → M k = M0 k) → PC law M s0 s f (D + 1) → Y = lo C 4 5 X m i q f → lw_59_17 W (m + 1) o (f_66 G) (nI v) G (fun _ _ G => K 1 G) K
  | 0, v, i, q, s, M, G, f, hv, hs, hR, hM, hP, e => by
    unfold lw_59_17
    rw [if_pos (show (400 : Int32) ≤ nI v from nI_le (a := 400) (by omega) (by omega))]
    exact hS i q f e s M G hR hM hs hP
  | m + 1, v, i, q, s, M, G, f, hv, hs, hR, hM, hP, e => by
    have n4 := hB.1
    have cl := BC_le hB hR.1
    have e : Y = (if 4 ≤ sgo (C i) ∧ sgo (C i) ≤ 5 then thn (X (i + 1) q) (fun j q' g => lo C 4 5 X m j q' (bnd (sgo (C i)) f g)) else (i, some (q, f))) := e
    unfold lw_59_17
    rw [if_neg (show ¬ (400 : Int32) ≤ nI v from nI_ge (b := 400) (by omega) (by decide)), show (4 : Int32) = nI 4 from rfl, show (5 : Int32) = nI 5 from rfl, f13g cl hR.2.2.2.2.2.1 (by decide) (by decide) (by decide)]
    refine ifd (fun c => ?_) (fun c => ?_)
    · rw [if_neg c] at e
      exact hS i q f e s M G hR hM hs hP
    · rw [if_pos c] at e
      have sg := sgo_sg (show 1 ≤ sgo (C i) by omega)
      have ef : f_66 G = nI (sgo (C i)) := by rw [f66 cl hR.2.2.2.2.2.1, if_neg (by omega)]
      refine q58 hB hR (by omega) (fun i1 G3 hR3 => ?_)
      refine h (i + 1) q s M G3 _ (by omega) hR3 (fun j ej G5 g => ?_) (fun j q' g ej s' M' G5 hR5 hM5 hs5 hP5 => ?_)
      · refine am_ifp rfl (hF j ?_ G5 g)
        rw [e, ej]
        rfl
      · have p5 := hP5.1
        have j5 := hR5.1
        refine am_ifn (by decide) ?_
        rw [ef, show (0 : Int32) = nI 0 from rfl]
        refine q64 hR5 (by omega) (fun G7 hR7 => ?_)
        rw [← nI_succ]
        have pm := PC_bin (o := sgo (C i)) (w := 0) (PC_cg (M' := up2 M' s' (sgo (C i), 0)) hP (fun k k1 k2 => by rw [up2_n (by omega)]; exact hM5 k k2)) (PC_cg (M' := up2 M' s' (sgo (C i), 0)) hP5 (fun k k1 k2 => up2_n (by omega))) up2_e (by omega) (by omega) (by omega)
        rw [Nat.max_eq_left (Nat.le_refl _)] at pm
        refine l59 hB h Y hs0 hF hS m (v + 1) j q' (s' + 1) _ G7 _ (by omega) (by omega) hR7 (fun k hk => ?_) pm ?_
        · have := hP.1
          rw [up2_n (by omega), hM5 k (by omega)]
          exact hM k hk
        · rw [e, ej]
          rfl
theorem ct59 {n : Nat} {C : Nat → Nat} {law : Bool} {B : am_I} {D : Nat} {X : Nat → Nat → Rs} {W : Nat → Int32 → am_I → (Int32 → am_I → Prop) → Prop} {o : Int32} (hB : BC n C law B) (h : CT n C law B D X (W 60 o)) : CT n C law B (D + 1) (lpO C 4 5 X) (w_59 W o) := by
  intro i q s M G K hs hR hF hS
  unfold w_59
  refine h i q s M G _ hs hR (fun j e G' g => ?_) (fun j q' f e s' M' G' hR' hM' hs' hP' => ?_)
  · refine am_ifp rfl (hF j ?_ G' g)
    unfold lpO
    rw [e]
    rfl
  · refine am_ifn (by decide) ⟨401, ?_⟩
    refine l59 hB h (lpO C 4 5 X i q) hs hF hS 400 0 j q' s' M' G' f (by omega) hs' hR' hM' (PC_up hP' (by omega)) ?_
    unfold lpO
    rw [e]
    rfl
theorem l60 {n : Nat} {C : Nat → Nat} {law : Bool} {B : am_I} {D : Nat} {X : Nat → Nat → Rs} {W : Nat → Int32 → am_I → (Int32 → am_I → Prop) → Prop} {o : Int32} (hB : BC n C law B) (h : CT n C law B D X (W 61 o)) {i0 s0 : Nat} {M0 : Nat → Nat × Nat} {K : Int32 → am_I → Prop} (Y : Rs) (hs0 : s0 ≤ i0) (hF : ∀ j, Y = (j, none) → ∀ G', RF n B j G' → K 0 G') (hS : ∀ j q' f, Y = (j, some (q', f)) → ∀ s' M' G', RD n C B j q' s' M' G' → (∀ k, k < s0 → M' k = M0 k) → s' + i0 ≤ s0 + j → PC law M' s0 s' f (D + 1) → K 1 G') : ∀ m v i q s M G f, v + m = 400 → s + i0 ≤ s0 + i → RD n C B i q s M G → (∀ k, k < s0 → M k = M0 k) → PC law M s0 s f (D + 1) → Y = lo C 6 8 X m i q f → lw_60_17 W (m + 1) o (f_66 G) (nI v) G (fun _ _ G => K 1 G) K
  | 0, v, i, q, s, M, G, f, hv, hs, hR, hM, hP, e => by
    unfold lw_60_17
    rw [if_pos (show (400 : Int32) ≤ nI v from nI_le (a := 400) (by omega) (by omega))]
    exact hS i q f e s M G hR hM hs hP
  | m + 1, v, i, q, s, M, G, f, hv, hs, hR, hM, hP, e => by
    have n4 := hB.1
    have cl := BC_le hB hR.1
    have e : Y = (if 6 ≤ sgo (C i) ∧ sgo (C i) ≤ 8 then thn (X (i + 1) q) (fun j q' g => lo C 6 8 X m j q' (bnd (sgo (C i)) f g)) else (i, some (q, f))) := e
    unfold lw_60_17
    rw [if_neg (show ¬ (400 : Int32) ≤ nI v from nI_ge (b := 400) (by omega) (by decide)), show (6 : Int32) = nI 6 from rfl, show (8 : Int32) = nI 8 from rfl, f13g cl hR.2.2.2.2.2.1 (by decide) (by decide) (by decide)]
    refine ifd (fun c => ?_) (fun c => ?_)
    · rw [if_neg c] at e
      exact hS i q f e s M G hR hM hs hP
    · rw [if_pos c] at e
      have sg := sgo_sg (show 1 ≤ sgo (C i) by omega)
      have ef : f_66 G = nI (sgo (C i)) := by rw [f66 cl hR.2.2.2.2.2.1, if_neg (by omega)]
      refine q58 hB hR (by omega) (fun i1 G3 hR3 => ?_)
      refine h (i + 1) q s M G3 _ (by omega) hR3 (fun j ej G5 g => ?_) (fun j q' g ej s' M' G5 hR5 hM5 hs5 hP5 => ?_)
      · refine am_ifp rfl (hF j ?_ G5 g)
        rw [e, ej]
        rfl
      · have p5 := hP5.1
        have j5 := hR5.1
        refine am_ifn (by decide) ?_
        rw [ef, show (0 : Int32) = nI 0 from rfl]
        refine q64 hR5 (by omega) (fun G7 hR7 => ?_)
        rw [← nI_succ]
        have pm := PC_bin (o := sgo (C i)) (w := 0) (PC_cg (M' := up2 M' s' (sgo (C i), 0)) hP (fun k k1 k2 => by rw [up2_n (by omega)]; exact hM5 k k2)) (PC_cg (M' := up2 M' s' (sgo (C i), 0)) hP5 (fun k k1 k2 => up2_n (by omega))) up2_e (by omega) (by omega) (by omega)
        rw [Nat.max_eq_left (Nat.le_refl _)] at pm
        refine l60 hB h Y hs0 hF hS m (v + 1) j q' (s' + 1) _ G7 _ (by omega) (by omega) hR7 (fun k hk => ?_) pm ?_
        · have := hP.1
          rw [up2_n (by omega), hM5 k (by omega)]
          exact hM k hk
        · rw [e, ej]
          rfl
theorem ct60 {n : Nat} {C : Nat → Nat} {law : Bool} {B : am_I} {D : Nat} {X : Nat → Nat → Rs} {W : Nat → Int32 → am_I → (Int32 → am_I → Prop) → Prop} {o : Int32} (hB : BC n C law B) (h : CT n C law B D X (W 61 o)) : CT n C law B (D + 1) (lpO C 6 8 X) (w_60 W o) := by
  intro i q s M G K hs hR hF hS
  unfold w_60
  refine h i q s M G _ hs hR (fun j e G' g => ?_) (fun j q' f e s' M' G' hR' hM' hs' hP' => ?_)
  · refine am_ifp rfl (hF j ?_ G' g)
    unfold lpO
    rw [e]
    rfl
  · refine am_ifn (by decide) ⟨401, ?_⟩
    refine l60 hB h (lpO C 6 8 X i q) hs hF hS 400 0 j q' s' M' G' f (by omega) hs' hR' hM' (PC_up hP' (by omega)) ?_
    unfold lpO
    rw [e]
    rfl
theorem l68 {n : Nat} {C : Nat → Nat} {law : Bool} {B : am_I} {D : Nat} {X : Nat → Nat → Rs} {W : Nat → Int32 → am_I → (Int32 → am_I → Prop) → Prop} {o : Int32} (hB : BC n C law B) (h : CT n C law B D X (W 69 o)) {i0 s0 : Nat} {M0 : Nat → Nat × Nat} {K : Int32 → am_I → Prop} (Y : Rs) (hs0 : s0 ≤ i0) (hF : ∀ j, Y = (j, none) → ∀ G', RF n B j G' → K 0 G') (hS : ∀ j q' f, Y = (j, some (q', f)) → ∀ s' M' G', RD n C B j q' s' M' G' → (∀ k, k < s0 → M' k = M0 k) → s' + i0 ≤ s0 + j → PC law M' s0 s' f D → K 1 G') : ∀ m v i q s M G f, v + m = 400 → s + i0 ≤ s0 + i → RD n C B i q s M G → (∀ k, k < s0 → M k = M0 k) → PC law M s0 s f D → Y = sl C 13 X m i q f → lw_68_12 W (m + 1) o (nI v) G (fun _ G => K 1 G) K
  | 0, v, i, q, s, M, G, f, hv, hs, hR, hM, hP, e => by
    unfold lw_68_12
    rw [if_pos (show (400 : Int32) ≤ nI v from nI_le (a := 400) (by omega) (by omega))]
    exact hS i q f e s M G hR hM hs hP
  | m + 1, v, i, q, s, M, G, f, hv, hs, hR, hM, hP, e => by
    have n4 := hB.1
    have cl := BC_le hB hR.1
    have e : Y = (if C i = 1000000 + 13 then thn (X (i + 1) q) (fun j q' g => sl C 13 X m j q' (shd 13 f g)) else (i, some (q, f))) := e
    unfold lw_68_12
    rw [if_neg (show ¬ (400 : Int32) ≤ nI v from nI_ge (b := 400) (by omega) (by decide)), show (1000013 : Int32) = nI 1000013 from rfl]
    refine q62 hB hR (by decide) (fun c => ?_) (fun c i1 G3 hR3 => ?_)
    · rw [if_neg (by omega)] at e
      refine am_ifp rfl ?_
      exact hS i q f e s M G hR hM hs hP
    · rw [if_pos (by omega)] at e
      refine am_ifn (by decide) ?_
      rw [show (13 : Int32) = nI 13 from rfl, show (0 : Int32) = nI 0 from rfl]
      refine q64 hR3 (by omega) (fun G6 hR6 => ?_)
      refine h (i + 1) q (s + 1) _ G6 _ (by omega) hR6 (fun j ej G5 g => ?_) (fun j q' g ej s' M' G5 hR5 hM5 hs5 hP5 => ?_)
      · refine am_ifp rfl (hF j ?_ G5 g)
        rw [e, ej]
        rfl
      · have p5 := hP5.1
        have p0 := hP.1
        have j5 := hR5.1
        refine am_ifn (by decide) ?_
        refine q71 hR5 (by omega) (fun G7 hR7 => ?_)
        rw [← nI_succ]
        have pm := PC_sh (o := 13) (PC_cg (M' := up2 M' s (13, s')) hP (fun k k1 k2 => by rw [up2_n (by omega), hM5 k (by omega), up2_n (by omega)])) up2_e (by decide) (by omega) (PC_cg (M' := up2 M' s (13, s')) hP5 (fun k k1 k2 => up2_n (by omega)))
        rw [Nat.max_eq_left (Nat.le_refl _)] at pm
        refine l68 hB h Y hs0 hF hS m (v + 1) j q' s' _ G7 _ (by omega) (by omega) hR7 (fun k hk => ?_) pm ?_
        · rw [up2_n (by omega), hM5 k (by omega), up2_n (by omega)]
          exact hM k hk
        · rw [e, ej]
          rfl
theorem ct68 {n : Nat} {C : Nat → Nat} {law : Bool} {B : am_I} {D : Nat} {X : Nat → Nat → Rs} {W : Nat → Int32 → am_I → (Int32 → am_I → Prop) → Prop} {o : Int32} (hB : BC n C law B) (h : CT n C law B D X (W 69 o)) : CT n C law B D (lpW C 13 X) (w_68 W o) := by
  intro i q s M G K hs hR hF hS
  unfold w_68
  refine h i q s M G _ hs hR (fun j e G' g => ?_) (fun j q' f e s' M' G' hR' hM' hs' hP' => ?_)
  · refine am_ifp rfl (hF j ?_ G' g)
    unfold lpW
    rw [e]
    rfl
  · refine am_ifn (by decide) ⟨401, ?_⟩
    refine l68 hB h (lpW C 13 X i q) hs hF hS 400 0 j q' s' M' G' f (by omega) hs' hR' hM' hP' ?_
    unfold lpW
    rw [e]
    rfl
theorem l69 {n : Nat} {C : Nat → Nat} {law : Bool} {B : am_I} {D : Nat} {X : Nat → Nat → Rs} {W : Nat → Int32 → am_I → (Int32 → am_I → Prop) → Prop} {o : Int32} (hB : BC n C law B) (h : CT n C law B D X (W 70 o)) {i0 s0 : Nat} {M0 : Nat → Nat × Nat} {K : Int32 → am_I → Prop} (Y : Rs) (hs0 : s0 ≤ i0) (hF : ∀ j, Y = (j, none) → ∀ G', RF n B j G' → K 0 G') (hS : ∀ j q' f, Y = (j, some (q', f)) → ∀ s' M' G', RD n C B j q' s' M' G' → (∀ k, k < s0 → M' k = M0 k) → s' + i0 ≤ s0 + j → PC law M' s0 s' f D → K 1 G') : ∀ m v i q s M G f, v + m = 400 → s + i0 ≤ s0 + i → RD n C B i q s M G → (∀ k, k < s0 → M k = M0 k) → PC law M s0 s f D → Y = sl C 14 X m i q f → lw_69_12 W (m + 1) o (nI v) G (fun _ G => K 1 G) K
  | 0, v, i, q, s, M, G, f, hv, hs, hR, hM, hP, e => by
    unfold lw_69_12
    rw [if_pos (show (400 : Int32) ≤ nI v from nI_le (a := 400) (by omega) (by omega))]
    exact hS i q f e s M G hR hM hs hP
  | m + 1, v, i, q, s, M, G, f, hv, hs, hR, hM, hP, e => by
    have n4 := hB.1
    have cl := BC_le hB hR.1
    have e : Y = (if C i = 1000000 + 14 then thn (X (i + 1) q) (fun j q' g => sl C 14 X m j q' (shd 14 f g)) else (i, some (q, f))) := e
    unfold lw_69_12
    rw [if_neg (show ¬ (400 : Int32) ≤ nI v from nI_ge (b := 400) (by omega) (by decide)), show (1000014 : Int32) = nI 1000014 from rfl]
    refine q62 hB hR (by decide) (fun c => ?_) (fun c i1 G3 hR3 => ?_)
    · rw [if_neg (by omega)] at e
      refine am_ifp rfl ?_
      exact hS i q f e s M G hR hM hs hP
    · rw [if_pos (by omega)] at e
      refine am_ifn (by decide) ?_
      rw [show (14 : Int32) = nI 14 from rfl, show (0 : Int32) = nI 0 from rfl]
      refine q64 hR3 (by omega) (fun G6 hR6 => ?_)
      refine h (i + 1) q (s + 1) _ G6 _ (by omega) hR6 (fun j ej G5 g => ?_) (fun j q' g ej s' M' G5 hR5 hM5 hs5 hP5 => ?_)
      · refine am_ifp rfl (hF j ?_ G5 g)
        rw [e, ej]
        rfl
      · have p5 := hP5.1
        have p0 := hP.1
        have j5 := hR5.1
        refine am_ifn (by decide) ?_
        refine q71 hR5 (by omega) (fun G7 hR7 => ?_)
        rw [← nI_succ]
        have pm := PC_sh (o := 14) (PC_cg (M' := up2 M' s (14, s')) hP (fun k k1 k2 => by rw [up2_n (by omega), hM5 k (by omega), up2_n (by omega)])) up2_e (by decide) (by omega) (PC_cg (M' := up2 M' s (14, s')) hP5 (fun k k1 k2 => up2_n (by omega)))
        rw [Nat.max_eq_left (Nat.le_refl _)] at pm
        refine l69 hB h Y hs0 hF hS m (v + 1) j q' s' _ G7 _ (by omega) (by omega) hR7 (fun k hk => ?_) pm ?_
        · rw [up2_n (by omega), hM5 k (by omega), up2_n (by omega)]
          exact hM k hk
        · rw [e, ej]
          rfl
theorem ct69 {n : Nat} {C : Nat → Nat} {law : Bool} {B : am_I} {D : Nat} {X : Nat → Nat → Rs} {W : Nat → Int32 → am_I → (Int32 → am_I → Prop) → Prop} {o : Int32} (hB : BC n C law B) (h : CT n C law B D X (W 70 o)) : CT n C law B D (lpW C 14 X) (w_69 W o) := by
  intro i q s M G K hs hR hF hS
  unfold w_69
  refine h i q s M G _ hs hR (fun j e G' g => ?_) (fun j q' f e s' M' G' hR' hM' hs' hP' => ?_)
  · refine am_ifp rfl (hF j ?_ G' g)
    unfold lpW
    rw [e]
    rfl
  · refine am_ifn (by decide) ⟨401, ?_⟩
    refine l69 hB h (lpW C 14 X i q) hs hF hS 400 0 j q' s' M' G' f (by omega) hs' hR' hM' hP' ?_
    unfold lpW
    rw [e]
    rfl
