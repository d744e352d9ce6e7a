/-! the class reads: parts, plain tests -/
theorem f63 {G : am_I} {c : Nat} {law : Bool} (hc : c ≤ 3000000) (e4 : G 14 4 = b1 law) : f_63 (nI c - 1000000) G = b1 (asw law c) := by
  unfold f_63
  rw [e4]
  cases law with
  | true =>
    rw [if_neg (show ¬ b1 true = 0 by decide)]
    rw [asw_t]
    exact f13s (k := 1000000) (a := 16) (b := 25) hc (by decide) (by decide) (by decide)
  | false =>
    rw [if_pos (show b1 false = 0 from rfl), asw_f]
    by_cases e : c = 1000023
    · rw [if_pos (show nI c - (1000000 : Int32) = 23 from (sub_eq (k := 1000000) (m := 23) hc (by decide) (by decide)).mpr e), decide_eq_true (Or.inl e)]
      rfl
    · rw [if_neg (show ¬ nI c - (1000000 : Int32) = 23 from fun q => e ((sub_eq (k := 1000000) (m := 23) hc (by decide) (by decide)).mp q)), show f_13 (nI c - (1000000 : Int32)) 26 31 = b1 (decide (1000000 + 26 ≤ c ∧ c ≤ 1000000 + 31)) from f13s (k := 1000000) (a := 26) (b := 31) hc (by decide) (by decide) (by decide)]
      by_cases y : 1000000 + 26 ≤ c ∧ c ≤ 1000000 + 31
      · rw [decide_eq_true y, decide_eq_true (Or.inr y)]
        rfl
      · rw [decide_eq_false y, decide_eq_false (fun q => by rcases q with q | q; exact e q; exact y q)]
        rfl
theorem q65 {n : Nat} {C : Nat → Nat} {law : Bool} {B : am_I} {i q s : Nat} {M : Nat → Nat × Nat} {G : am_I} {K : Int32 → am_I → Prop} (hB : BC n C law B) (hs : s ≤ i) (hR : RD n C B i q s M G) (ha : asw law (C i) = true) (hF : ∀ j, wdP C i q = (j, none) → ∀ G', RF n B j G' → K 0 G') (hS : ∀ j q' f, wdP C i q = (j, some (q', f)) → ∀ s' M' G', RD n C B j q' s' M' G' → (∀ k, k < s → M' k = M k) → s' + i ≤ s + j → PC law M' s s' f 1 → K 1 G') : w_65 G K := by
  obtain ⟨a1, a2, a3, a4⟩ := asw_c ha
  have n4 := hB.1
  have cl := BC_le hB hR.1
  unfold wdP at hF hS
  unfold w_65
  rw [hR.2.2.2.2.2.1]
  refine q58 hB hR (by omega) (fun i1 G1 hR1 => ?_)
  have cl1 := BC_le hB i1
  rw [hR1.2.2.2.2.2.1]
  have e7 : f_13 (nI (C (i + 1))) 0 7 = b1 (decide (0 ≤ C (i + 1) ∧ C (i + 1) ≤ 7)) := f13n (a := 0) (b := 7) (by omega) (by decide) (by decide)
  by_cases c30 : C i = 1000030
  · rw [if_pos c30] at hF hS
    have hl : law = false := by
      cases law with
      | true => have := a3 rfl; omega
      | false => rfl
    have x30 : nI (C i) - (1000000 : Int32) = 30 := (sub_eq (k := 1000000) (m := 30) cl (by decide) (by decide)).mpr c30
    rw [if_pos x30, e7]
    refine ifd (fun c => ?_) (fun c => ?_)
    · rw [if_neg (by omega)] at hF
      exact hF _ rfl G1 (RD_RF hR1)
    · rw [if_pos (by omega)] at hS
      refine q58 hB hR1 (by omega) (fun i2 G2 hR2 => ?_)
      rw [if_pos x30]
      refine q64 (o := 2) hR2 (by omega) (fun G7 hR7 => ?_)
      refine hS _ _ _ rfl _ _ G7 hR7 (fun k hk => up2_n (by omega)) (by omega) (PC_leaf up2_e (by decide) (okM_2 hl (by omega)))
  · rw [if_neg c30] at hF hS
    have x30 : ¬ nI (C i) - (1000000 : Int32) = 30 := fun q => c30 ((sub_eq (k := 1000000) (m := 30) cl (by decide) (by decide)).mp q)
    rw [if_neg x30]
    by_cases c31 : C i = 1000031
    · rw [if_pos c31] at hF hS
      have hl : law = false := by
        cases law with
        | true => have := a3 rfl; omega
        | false => rfl
      have x31 : nI (C i) - (1000000 : Int32) = 31 := (sub_eq (k := 1000000) (m := 31) cl (by decide) (by decide)).mpr c31
      rw [if_pos x31, e7]
      refine ifd (fun c => ?_) (fun c => ?_)
      · rw [if_neg (by omega)] at hF
        exact hF _ rfl G1 (RD_RF hR1)
      · rw [if_pos (by omega)] at hF hS
        refine q58 hB hR1 (by omega) (fun i2 G2 hR2 => ?_)
        have cl2 := BC_le hB i2
        rw [if_neg x30, hR2.2.2.2.2.2.1, show f_13 (nI (C (i + 1 + 1))) 0 11 = b1 (decide (0 ≤ C (i + 1 + 1) ∧ C (i + 1 + 1) ≤ 11)) from f13n (a := 0) (b := 11) (by omega) (by decide) (by decide)]
        refine ifd (fun d => ?_) (fun d => ?_)
        · rw [if_neg (show ¬ C (i + 2) ≤ 11 from fun z => d ⟨Nat.zero_le _, z⟩)] at hF
          exact hF _ rfl G2 (RD_RF hR2)
        · have d2 : C (i + 2) ≤ 11 := d.2
          rw [if_pos d2] at hS
          rw [show (12 : Int32) = nI 12 from rfl, nb_mul, nb_add]
          refine q64 (o := 3) hR2 (by omega) (fun G4 hR4 => ?_)
          refine q58 hB hR4 (by omega) (fun i3 G5 hR5 => ?_)
          refine hS _ _ _ rfl _ _ G5 hR5 (fun k hk => up2_n (by omega)) (by omega) (PC_leaf up2_e (by decide) (okM_3 hl (by omega)))
    · rw [if_neg c31] at hS
      have x31 : ¬ nI (C i) - (1000000 : Int32) = 31 := fun q => c31 ((sub_eq (k := 1000000) (m := 31) cl (by decide) (by decide)).mp q)
      have xw : nI (C i) - (1000000 : Int32) - 16 = nI (C i - 1000016) := by
        rw [show (1000000 : Int32) = nI 1000000 from rfl, show (16 : Int32) = nI 16 from rfl, nI_sub (by omega), nI_sub (by omega)]
        exact congrArg nI (by omega)
      rw [if_neg x31, xw]
      refine q64 (o := 1) hR1 (by omega) (fun G15 hR15 => ?_)
      exact hS _ _ _ rfl _ _ G15 hR15 (fun k hk => up2_n (by omega)) (by omega) (PC_leaf up2_e (by decide) (okM_w ha c30 c31))
/-- a bracket, or none that may be opened -/
def CB (n : Nat) (C : Nat → Nat) (law : Bool) (B : am_I) (D b y op : Nat) (x : Int32) (X : Nat → Nat → Rs) (W : Nat → Int32 → am_I → (Int32 → am_I → Prop) → Prop) : Prop := ∀ (i q s : Nat) (M : Nat → Nat × Nat) (G : am_I) (K0 K1 : am_I → Prop), C i = b → s ≤ i → RD n C B i q s M G → (∀ j, X i q = (j, none) → ∀ G', RF n B j G' → K0 G') → (∀ j q' f, X i q = (j, some (q', f)) → ∀ s' M' G', RD n C B j q' s' M' G' → (∀ k, k < s → M' k = M k) → s' + i ≤ s + j → PC law M' s s' f D → K1 G') → if nI op < 8 then w_58 G (fun I11 => W y (nI op + 1) I11 (fun q12 I13 => if q12 = 0 then K0 I13 else w_62 x I13 (fun q14 I15 => if q14 = 0 then K0 I15 else K1 I15))) else K0 G
theorem cb_in {n : Nat} {C : Nat → Nat} {law : Bool} {B : am_I} {D b y op cl : Nat} {x : Int32} {X : Nat → Nat → Rs} {W : Nat → Int32 → am_I → (Int32 → am_I → Prop) → Prop} (hB : BC n C law B) (hb : b < 3000000) (hcl : cl < 3000000) (hx : x = nI cl) (hop : op < 8) (h : CT n C law B D X (W y (nI (op + 1)))) : CB n C law B D b y op x (inO C cl X) W := by
  intro i q s M G K0 K1 hC hs hR hF hS
  rw [if_pos (show nI op < (8 : Int32) from (nb_lt (b := 8) (by omega) (by decide)).mpr hop), hx, ← nI_succ]
  refine q58 hB hR (by omega) (fun i1 G1 hR1 => ?_)
  refine h (i + 1) q s M G1 _ (by omega) hR1 (fun j ej G5 g => ?_) (fun j q' g ej s' M' G5 hR5 hM5 hs5 hP5 => ?_)
  · refine am_ifp rfl (hF j ?_ G5 g)
    unfold inO
    rw [ej]
    rfl
  · refine am_ifn (by decide) (q62 hB hR5 hcl (fun c => ?_) (fun c j1 G6 hR6 => ?_))
    · refine am_ifp rfl (hF j ?_ G5 (RD_RF hR5))
      unfold inO
      rw [ej, thn_s, if_neg c]
    · refine am_ifn (by decide) (hS (j + 1) q' g ?_ s' M' G6 hR6 hM5 (by omega) hP5)
      unfold inO
      rw [ej, thn_s, if_pos c]
theorem cb_no {n : Nat} {C : Nat → Nat} {law : Bool} {B : am_I} {D b y : Nat} {x : Int32} {W : Nat → Int32 → am_I → (Int32 → am_I → Prop) → Prop} : CB n C law B D b y 8 x inN W := by
  intro i q s M G K0 K1 hC hs hR hF hS
  rw [if_neg (by decide)]
  exact hF i rfl G (RD_RF hR)
theorem ct61 {n : Nat} {C : Nat → Nat} {law : Bool} {B : am_I} {D op : Nat} {inn : Nat → Nat → Rs} {W : Nat → Int32 → am_I → (Int32 → am_I → Prop) → Prop} (hB : BC n C law B) (hD : 1 ≤ D) (hin : CB n C law B D 2000091 59 op 2000093 inn W) : CT n C law B D (ptP C law inn) (w_61 W (nI op)) := by
  intro i q s M G K hs hR hF hS
  have n4 := hB.1
  have cl := BC_le hB hR.1
  have q5 := hR.2.1
  unfold w_61
  rw [hR.2.2.2.2.2.1, hR.2.2.2.2.2.2.1]
  unfold ptP at hF hS
  by_cases c : C i = 2000091
  · rw [if_pos c] at hF hS
    rw [if_pos (show nI (C i) = 2000091 by rw [c]; rfl)]
    exact hin i q s M G (K 0) (K 1) c hs hR hF hS
  · rw [if_neg c] at hF hS
    rw [if_neg (show ¬ nI (C i) = 2000091 from fun z => c ((nb_inj (b := 2000091) (by omega) (by decide)).mp z))]
    by_cases c5 : 50 ≤ q
    · rw [if_pos c5] at hF
      rw [if_pos (show (50 : Int32) ≤ nI q from nI_le (a := 50) c5 (by omega))]
      exact hF i rfl G (RD_RF hR)
    · rw [if_neg c5] at hF hS
      rw [if_neg (show ¬ (50 : Int32) ≤ nI q from nI_ge (b := 50) (by omega) (by decide)), show f_13 (nI (C i)) 0 1000 = b1 (decide (0 ≤ C i ∧ C i ≤ 1000)) from f13n (a := 0) (b := 1000) (by omega) (by decide) (by decide), f63 cl (by rw [hR.2.2.2.1.2.1 4 (by decide) (by decide) (by decide)]; exact hB.2.2.2.2)]
      have hRq := RD_q hR (by omega)
      refine ifd (fun d => ?_) (fun d => ?_)
      · rw [if_neg (by omega)] at hF hS
        refine ifb (fun a => ?_) (fun a => ?_)
        · rw [a, if_neg (by decide)] at hF
          exact hF i rfl G (RD_RF hR)
        · rw [if_pos a] at hF hS
          rw [decide_eq_false d]
          refine am_ifp rfl (q65 hB hs hRq a (fun j e G' g => ⟨Or.inl rfl, hF j e G' g⟩) (fun j q' f e s' M' G' r1 r2 r3 r4 => ⟨Or.inr rfl, hS j q' f e s' M' G' r1 r2 r3 (PC_up r4 hD)⟩))
      · rw [if_pos (by omega)] at hS
        rw [decide_eq_true d]
        refine am_ifn (by decide) ?_
        have i1 : i < n := by
          by_cases e : i = n
          · rw [e, hB.2.2.1] at d; omega
          · have := hR.1; omega
        refine q64 (o := 0) hRq (by omega) (fun G3 hR3 => ?_)
        refine q58 hB hR3 (by omega) (fun i1 G4 hR4 => ?_)
        exact hS _ _ _ rfl _ _ G4 hR4 (fun k hk => up2_n (by omega)) (by omega) (PC_up (PC_leaf up2_e (by decide) (okM_0 (by omega))) hD)
theorem l70 {n : Nat} {C : Nat → Nat} {law : Bool} {B : am_I} {q s : Nat} {M : Nat → Nat × Nat} {W : Nat → Int32 → am_I → (Int32 → am_I → Prop) → Prop} {o : Int32} {E : Int32 → Int32 → am_I → Prop} (hB : BC n C law B) : ∀ m v i G, v + m = 400 → RD n C B i q s M G → (∀ u G', RD n C B (rnk (fun k => decide (C k = 1000015)) m i) q s M G' → E (nI (v + (rnk (fun k => decide (C k = 1000015)) m i - i))) u G') → lw_70_4 W (m + 1) o (nI v) (nI v) G E
  | 0, v, i, G, hv, hR, hE => by
    unfold lw_70_4
    rw [if_pos (show (400 : Int32) ≤ nI v from nI_le (a := 400) (by omega) (by omega))]
    have hE : E (nI (v + (i - i))) (nI v) G := hE (nI v) G hR
    rw [Nat.sub_self] at hE
    exact hE
  | m + 1, v, i, G, hv, hR, hE => by
    have re : rnk (fun k => decide (C k = 1000015)) (m + 1) i = if (fun k => decide (C k = 1000015)) i = true then rnk (fun k => decide (C k = 1000015)) m (i + 1) else i := rfl
    unfold lw_70_4
    rw [if_neg (show ¬ (400 : Int32) ≤ nI v from nI_ge (b := 400) (by omega) (by decide)), show (1000015 : Int32) = nI 1000015 from rfl]
    refine q62 hB hR (by decide) (fun c => ?_) (fun c i1 G3 hR3 => ?_)
    · rw [re, if_neg (by rw [show (fun k => decide (C k = 1000015)) i = false from decide_eq_false c]; decide), Nat.sub_self] at hE
      exact am_ifp rfl (hE (nI v) G hR)
    · rw [re, if_pos (show (fun k => decide (C k = 1000015)) i = true from decide_eq_true c)] at hE
      refine am_ifn (by decide) ?_
      have rl := (rnk_le (fun k => decide (C k = 1000015)) m (i + 1)).1
      rw [← nI_succ]
      refine l70 hB m (v + 1) (i + 1) G3 (by omega) hR3 (fun u G' g => ?_)
      have h := hE u G' g
      rw [show v + 1 + (rnk (fun k => decide (C k = 1000015)) m (i + 1) - (i + 1)) = v + (rnk (fun k => decide (C k = 1000015)) m (i + 1) - i) by omega]
      exact h
theorem ct70 {n : Nat} {C : Nat → Nat} {law : Bool} {B : am_I} {Ds D op : Nat} {inn sm : Nat → Nat → Rs} {W : Nat → Int32 → am_I → (Int32 → am_I → Prop) → Prop} (hB : BC n C law B) (hD : Ds + 1 ≤ D) (hin : CB n C law B D 2000040 68 op 2000041 inn W) (hsm : CT n C law B Ds sm (W 59 (nI op))) : CT n C law B D (plP C inn sm) (w_70 W (nI op)) := by
  intro i q s M G K hs hR hF hS
  have n4 := hB.1
  unfold w_70
  refine ⟨401, l70 hB 400 0 i G (by omega) hR (fun u G5 hR5 => ?_)⟩
  have rl := rnk_le (fun k => decide (C k = 1000015)) 400 i
  unfold plP at hF hS
  show (if (G5 14 8) = 2000040 then _ else _)
  have ent : ntk C i = rnk (fun k => decide (C k = 1000015)) 400 i := rfl
  rw [← ent] at hR5 rl ⊢
  generalize ntk C i = j0 at *
  have cl := BC_le hB hR5.1
  have ev : nI (0 + (j0 - i)) - nI (0 + (j0 - i)) / 2 * 2 = nI ((j0 - i) % 2) := by
    rw [Nat.zero_add]
    exact pk_rem (d := 2) (by omega) (by decide) (by decide)
  -- behind a plain test: the nots
  have fin : ∀ j q' f, (∀ s' M' G', RD n C B j q' s' M' G' → (∀ k, k < s → M' k = M k) → s' + i ≤ s + j → PC law M' s s' (ntf (j0 - i) f) D → K 1 G') → ∀ s' M' G', RD n C B j q' s' M' G' → (∀ k, k < s → M' k = M k) → s' + j0 ≤ s + j → PC law M' s s' f D → (if nI (0 + (j0 - i)) - nI (0 + (j0 - i)) / 2 * 2 = 1 then w_64 12 0 G' (fun _ I21 => K 1 I21) else K 1 G') := by
    intro j q' f hk s' M' G' r1 r2 r3 r4
    have jn := r1.1
    have p4 := r4.1
    rw [ev]
    unfold ntf at hk
    by_cases c : (j0 - i) % 2 = 1
    · rw [if_pos c] at hk
      refine am_ifp (by rw [c]; rfl) ?_
      rw [show (12 : Int32) = nI 12 from rfl, show (0 : Int32) = nI 0 from rfl]
      refine q64 r1 (by omega) (fun G7 r7 => hk _ _ G7 r7 (fun k hk => by rw [up2_n (by omega)]; exact r2 k hk) (by omega) (PC_not (PC_cg r4 (fun k k1 k2 => up2_n (by omega))) up2_e (by omega)))
    · rw [if_neg c] at hk
      refine am_ifn (fun z => c ((nb_inj (b := 1) (by omega) (by decide)).mp z)) ?_
      exact hk _ _ G' r1 r2 (by omega) r4
  rw [hR5.2.2.2.2.2.1]
  by_cases c : C j0 = 2000040
  · rw [if_pos c] at hF hS
    rw [if_pos (show nI (C j0) = 2000040 by rw [c]; rfl)]
    refine hin j0 q s M G5 (K 0) (fun I19 => if nI (0 + (j0 - i)) - nI (0 + (j0 - i)) / 2 * 2 = 1 then w_64 12 0 I19 (fun _ I21 => K 1 I21) else K 1 I19) c (by omega) hR5 (fun j e G' g => hF j (by rw [e]; rfl) G' g) (fun j q' f e s' M' G' r1 r2 r3 r4 => ?_)
    exact fin j q' f (hS j q' _ (by rw [e]; rfl)) s' M' G' r1 r2 r3 r4
  · rw [if_neg c] at hF hS
    rw [if_neg (show ¬ nI (C j0) = 2000040 from fun z => c ((nb_inj (b := 2000040) (by omega) (by decide)).mp z))]
    refine hsm j0 q s M G5 _ (by omega) hR5 (fun j e G' g => ?_) (fun j q' f e s' M' G' r1 r2 r3 r4 => ?_)
    · refine am_ifp rfl (hF j ?_ G' g)
      rw [e]
      rfl
    · rw [e, thn_s] at hF hS
      have clj := BC_le hB r1.1
      have p4 := r4.1
      refine am_ifn (by decide) ?_
      rw [show f_13 (f_66 G') 9 11 = b1 (decide (9 ≤ sgo (C j) ∧ sgo (C j) ≤ 11)) from f13g (a := 9) (b := 11) clj r1.2.2.2.2.2.1 (by decide) (by decide) (by decide)]
      refine ifd (fun d => ?_) (fun d => ?_)
      · rw [if_neg d] at hF
        exact hF j rfl G' (RD_RF r1)
      · rw [if_pos d] at hF hS
        have sg := sgo_sg (show 1 ≤ sgo (C j) by omega)
        have ef : f_66 G' = nI (sgo (C j)) := by rw [f66 clj r1.2.2.2.2.2.1, if_neg (by omega)]
        refine q58 hB r1 (by omega) (fun j1 G8 r8 => ?_)
        refine hsm (j + 1) q' s' M' G8 _ (by omega) r8 (fun j2 e2 G9 g9 => ?_) (fun j2 q2 f2 e2 s2 M2 G9 t1 t2 t3 t4 => ?_)
        · refine am_ifp rfl (hF j2 ?_ G9 g9)
          rw [e2]
          rfl
        · have jn := t1.1
          have p5 := t4.1
          rw [e2, thn_s] at hS
          refine am_ifn (by decide) ?_
          rw [ef]
          show w_64 (nI (sgo (C j))) (nI 0) G9 _
          refine q64 t1 (by omega) (fun G12 r12 => ?_)
          refine fin j2 q2 _ (hS j2 q2 _ rfl) _ _ G12 r12 (fun k hk => ?_) (by omega) (PC_up (PC_bin (w := 0) (PC_cg r4 (fun k k1 k2 => by rw [up2_n (by omega)]; exact t2 k k2)) (PC_cg t4 (fun k k1 k2 => up2_n (by omega))) up2_e (by omega) (by omega) (by omega)) (by omega))
          rw [up2_n (by omega), t2 k (by omega)]
          exact r2 k hk
theorem wg59 {m : Nat} {o : Int32} {I : am_I} {K : Int32 → am_I → Prop} (h : w_59 (wg m) o I K) : wg (m + 1) 59 o I K := by
  show (if 59 = 59 then _ else _)
  rw [if_pos rfl]
  exact h
theorem wg60 {m : Nat} {o : Int32} {I : am_I} {K : Int32 → am_I → Prop} (h : w_60 (wg m) o I K) : wg (m + 1) 60 o I K := by
  show (if 60 = 59 then _ else if 60 = 60 then _ else _)
  rw [if_neg (by decide), if_pos rfl]
  exact h
theorem wg61 {m : Nat} {o : Int32} {I : am_I} {K : Int32 → am_I → Prop} (h : w_61 (wg m) o I K) : wg (m + 1) 61 o I K := by
  show (if 61 = 59 then _ else if 61 = 60 then _ else if 61 = 61 then _ else _)
  rw [if_neg (by decide), if_neg (by decide), if_pos rfl]
  exact h
theorem wg68 {m : Nat} {o : Int32} {I : am_I} {K : Int32 → am_I → Prop} (h : w_68 (wg m) o I K) : wg (m + 1) 68 o I K := by
  show (if 68 = 59 then _ else if 68 = 60 then _ else if 68 = 61 then _ else if 68 = 68 then _ else _)
  rw [if_neg (by decide), if_neg (by decide), if_neg (by decide), if_pos rfl]
  exact h
theorem wg69 {m : Nat} {o : Int32} {I : am_I} {K : Int32 → am_I → Prop} (h : w_69 (wg m) o I K) : wg (m + 1) 69 o I K := by
  show (if 69 = 59 then _ else if 69 = 60 then _ else if 69 = 61 then _ else if 69 = 68 then _ else if 69 = 69 then _ else _)
  rw [if_neg (by decide), if_neg (by decide), if_neg (by decide), if_neg (by decide), if_pos rfl]
  exact h
theorem wg70 {m : Nat} {o : Int32} {I : am_I} {K : Int32 → am_I → Prop} (h : w_70 (wg m) o I K) : wg (m + 1) 70 o I K := by
  show (if 70 = 59 then _ else if 70 = 60 then _ else if 70 = 61 then _ else if 70 = 68 then _ else if 70 = 69 then _ else if 70 = 70 then _ else _)
  rw [if_neg (by decide), if_neg (by decide), if_neg (by decide), if_neg (by decide), if_neg (by decide), if_pos rfl]
  exact h
theorem CT_w {n : Nat} {C : Nat → Nat} {law : Bool} {B : am_I} {D : Nat} {X : Nat → Nat → Rs} {w w' : am_I → (Int32 → am_I → Prop) → Prop} (h : CT n C law B D X w) (e : ∀ G K, w G K → w' G K) : CT n C law B D X w' := fun i q s M G K h1 h2 h3 h4 => e G K (h i q s M G K h1 h2 h3 h4)
theorem ct_sm {n : Nat} {C : Nat → Nat} {law : Bool} {B : am_I} (hB : BC n C law B) : ∀ d, d ≤ 8 → ∀ m, CT n C law B (2 * d + 3) (smD C law d) (wg (3 * d + 3 + m) 59 (nI (8 - d)))
  | 0, _, m => by
    have e : 3 * 0 + 3 + m = m + 1 + 1 + 1 := by omega
    rw [e]
    exact CT_w (ct59 hB (CT_w (ct60 hB (CT_w (ct61 hB (Nat.le_refl 1) cb_no) (fun _ _ => wg61))) (fun _ _ => wg60))) (fun _ _ => wg59)
  | d + 1, hd, m => by
    have e : 3 * (d + 1) + 3 + m = 3 * d + 3 + m + 1 + 1 + 1 := by omega
    have ih := ct_sm hB d (by omega) m
    have e8 : 8 - d = 8 - (d + 1) + 1 := by omega
    rw [e8] at ih
    rw [e]
    exact CT_w (ct59 hB (CT_w (ct60 hB (CT_w (ct61 (D := 2 * d + 3) hB (by omega) (cb_in hB (by decide) (by decide) rfl (by omega) ih)) (fun _ _ => wg61))) (fun _ _ => wg60))) (fun _ _ => wg59)
theorem ct_ts {n : Nat} {C : Nat → Nat} {law : Bool} {B : am_I} (hB : BC n C law B) : ∀ d, d ≤ 8 → ∀ m, CT n C law B 20 (tsD C law d) (wg (3 * d + 6 + m) 68 (nI (8 - d)))
  | 0, _, m => by
    have e : 3 * 0 + 6 + m = 3 * 0 + 3 + m + 1 + 1 + 1 := by omega
    have hs := ct_sm hB 0 (by omega) m
    rw [e]
    exact CT_w (ct68 hB (CT_w (ct69 hB (CT_w (ct70 hB (by omega) cb_no hs) (fun _ _ => wg70))) (fun _ _ => wg69))) (fun _ _ => wg68)
  | d + 1, hd, m => by
    have e : 3 * (d + 1) + 6 + m = 3 * (d + 1) + 3 + m + 1 + 1 + 1 := by omega
    have e2 : 3 * d + 6 + m = 3 * (d + 1) + 3 + m := by omega
    have ih := ct_ts hB d (by omega) m
    have hs := ct_sm hB (d + 1) hd m
    have e8 : 8 - d = 8 - (d + 1) + 1 := by omega
    rw [e8, e2] at ih
    rw [e]
    exact CT_w (ct68 hB (CT_w (ct69 hB (CT_w (ct70 hB (by omega) (cb_in hB (by decide) (by decide) rfl (by omega) ih) hs) (fun _ _ => wg70))) (fun _ _ => wg69))) (fun _ _ => wg68)
theorem cx59 {n : Nat} {C : Nat → Nat} {law : Bool} {B : am_I} (hB : BC n C law B) : CT n C law B 20 (smD C law 8) (wx_59 0) := by
  intro i q s M G K h1 h2 h3 h4
  exact ct_sm hB 8 (Nat.le_refl _) 13 i q s M G K h1 h2 h3 (fun j q' f e s' M' G' r1 r2 r3 r4 => h4 j q' f e s' M' G' r1 r2 r3 (PC_up r4 (by omega)))
theorem cx68 {n : Nat} {C : Nat → Nat} {law : Bool} {B : am_I} (hB : BC n C law B) : CT n C law B 20 (tsD C law 8) (wx_68 0) := by
  intro i q s M G K h1 h2 h3 h4
  exact ct_ts hB 8 (Nat.le_refl _) 10 i q s M G K h1 h2 h3 h4
