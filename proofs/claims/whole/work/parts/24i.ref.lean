/-! the reference reads: sums -/
/-- from token i on, in a turn of rank r -/
def GO (x : TX) (x0 : Int32) (E : Int32 → am_I → am_J → Prop) (i r : Nat) (st : Int32 → am_I → am_J → Prop) : Prop := ∀ u, 3 * ((xR x).length - i) + r ≤ u → ∀ t G H, st t G H → lw_213_20 u x0 t G H E
/-- a piece was read: what is piled above P comes to it when it is settled -/
def FSx (x : TX) (lvl s : Nat) (M : Nat → Nat × Nat) (P : List (Nat × Nat)) (f : FN) (D j q : Nat) (G : am_I) (H : am_J) : Prop := ∃ (A : List (Nat × Nat)) (M' : Nat → Nat × Nat) (s' : Nat), RR x j j q s' M' (A ++ P) G H ∧ (∀ y, y ∈ A → lvl ≤ bnN y.1) ∧ (∀ k, k < s → (fl A M' s').1 k = M k) ∧ PC (xw x) (fl A M' s').1 s (fl A M' s').2 f D
/-- how a piece of a sum is read (turns 1 to 3) or of a test (0 to 2), by the paper X -/
def RT (x : TX) (x0 t0 t1 : Int32) (r1 lvl D d : Nat) (ok : List (Nat × Nat) → Prop) (X : Nat → Nat → Rs) : Prop := ∀ (i q s : Nat) (M : Nat → Nat × Nat) (P : List (Nat × Nat)) (E : Int32 → am_I → am_J → Prop), toplt lvl P → brk P + d = 8 → ok P → (∀ j, X i q = (j, none) → ∀ t G H, RB x j G H → E t G H) → (∀ j q' f, X i q = (j, some (q', f)) → GO x x0 E j r1 (fun t G H => t = t1 ∧ FSx x lvl s M P f D j q' G H)) → GO x x0 E i 3 (fun t G H => t = t0 ∧ RR x i i q s M P G H)
theorem lw_bad {x : TX} {j u : Nat} {x0 t : Int32} {G : am_I} {H : am_J} {E : Int32 → am_I → am_J → Prop} (h : RB x j G H) (hE : ∀ t G H, RB x j G H → E t G H) (hu : 1 ≤ u) : lw_213_20 u x0 t G H E := by
  obtain ⟨u', rfl⟩ : ∃ u', u = u' + 1 := ⟨u - 1, by omega⟩
  unfold lw_213_20
  rw [h.2.1, if_neg (by decide)]
  exact hE t G H h
theorem tl_up {lvl lvl' : Nat} (hl : lvl ≤ lvl') : ∀ {P : List (Nat × Nat)}, toplt lvl P → toplt lvl' P
  | [], _ => trivial
  | x :: t, h => by
    have h : bnN x.1 < lvl := h
    show bnN x.1 < lvl'
    omega
theorem FS_up {x : TX} {lvl lvl' s D D' j q : Nat} {M : Nat → Nat × Nat} {P : List (Nat × Nat)} {f : FN} {G : am_I} {H : am_J} (h : FSx x lvl s M P f D j q G H) (hl : lvl' ≤ lvl) (hD : D ≤ D') : FSx x lvl' s M P f D' j q G H := by
  obtain ⟨A, M', s', h1, h2, h3, h4⟩ := h
  exact ⟨A, M', s', h1, fun y hy => Nat.le_trans hl (h2 y hy), h3, PC_up h4 hD⟩
/-- a sign of operations, from the reference's side -/
def opR (c : Nat) : Nat := if 4 ≤ sgo c ∧ sgo c ≤ 8 then sgo c + 16 else 0
theorem q224o {x : TX} {i : Nat} {x0 : Int32} {G : am_I} {H : am_J} {K : Int32 → am_I → am_J → Prop} (h : RTk (xb x) (xz x) (xR x) (xC x) (xS x) i G H) (k0 : ¬ (4 ≤ sgo (xC x i) ∧ sgo (xC x i) ≤ 8) → wb_224_71 x0 (-1) G H K) (k1 : 4 ≤ sgo (xC x i) → sgo (xC x i) ≤ 8 → wb_224_71 x0 (nI (sgo (xC x i) + 16)) G H K) : w_224 x0 G H K := by
  unfold w_224
  rw [show f_216 43 G H = b1 (decide (xC x i = 2000000 + 43)) from f216 (ch := 43) h (by decide) rfl, show f_216 45 G H = b1 (decide (xC x i = 2000000 + 45)) from f216 (ch := 45) h (by decide) rfl, show f_216 42 G H = b1 (decide (xC x i = 2000000 + 42)) from f216 (ch := 42) h (by decide) rfl, show f_216 47 G H = b1 (decide (xC x i = 2000000 + 47)) from f216 (ch := 47) h (by decide) rfl, show f_216 37 G H = b1 (decide (xC x i = 2000000 + 37)) from f216 (ch := 37) h (by decide) rfl]
  generalize xC x i = c at *
  refine ifd (fun a1 => ifd (fun a2 => ifd (fun a3 => ifd (fun a4 => ifd (fun a5 => ?_) (fun a5 => ?_)) (fun a4 => ?_)) (fun a3 => ?_)) (fun a2 => ?_)) (fun a1 => ?_)
  · refine k0 (fun q => ?_)
    unfold sgo at q
    rw [if_neg (by omega), if_neg (by omega), if_neg (by omega), if_neg (by omega), if_neg (by omega)] at q
    split at q
    · omega
    · split at q
      · omega
      · split at q <;> omega
  · have e : c = 2000037 := by omega
    subst e
    exact k1 (by decide) (by decide)
  · have e : c = 2000047 := by omega
    subst e
    exact k1 (by decide) (by decide)
  · have e : c = 2000042 := by omega
    subst e
    exact k1 (by decide) (by decide)
  · have e : c = 2000045 := by omega
    subst e
    exact k1 (by decide) (by decide)
  · have e : c = 2000043 := by omega
    subst e
    exact k1 (by decide) (by decide)
theorem bnN_sg : ∀ o, 4 ≤ o → o ≤ 8 → bnN (o + 16) = if o ≤ 5 then 5 else 6 := by
  intro o h1 h2
  rcases (by omega : o = 4 ∨ o = 5 ∨ o = 6 ∨ o = 7 ∨ o = 8) with rfl | rfl | rfl | rfl | rfl
  all_goals rfl
/-- a sign of operations: what is piled is settled, the sign is piled -/
theorem q224p {x : TX} {j q s lvl D : Nat} {M : Nat → Nat × Nat} {P : List (Nat × Nat)} {f : FN} {x0 : Int32} {G : am_I} {H : am_J} {K : Int32 → am_I → am_J → Prop} (hx : XOK x) (h : FSx x lvl s M P f D j q G H) (hP : toplt lvl P) (h4 : 4 ≤ sgo (xC x j)) (h8 : sgo (xC x j) ≤ 8) (hl : lvl = if sgo (xC x j) ≤ 5 then 5 else 6) (hK : ∀ s2 M2 G' H', RR x (j + 1) (j + 1) q s2 M2 ((sgo (xC x j) + 16, 0) :: P) G' H' → (∀ k, k < s → M2 k = M k) → PC (xw x) M2 s s2 f D → K 1 G' H') : w_224 x0 G H K := by
  obtain ⟨A, M', s', h1, h2, h3, h5⟩ := h
  obtain ⟨r1, r2, r3, r4⟩ := RR_c hx h1
  have sg := sgo_sg (show 1 ≤ sgo (xC x j) by omega)
  have jl := r3 (by omega)
  refine q224o h1.1 (fun q => absurd ⟨h4, h8⟩ q) (fun _ _ => ?_)
  have bl : lvl = 5 ∨ lvl = 6 := by
    rw [hl]
    split <;> omega
  unfold wb_224_71
  rw [if_neg (nb_m1 (by omega)), f225 _ (by omega), bnN_sg _ h4 h8, ← hl]
  refine q226s h1 (by omega) (by omega) hP h2 (fun G1 g1 => ?_)
  rw [show (0 : Int32) = nI 0 from rfl]
  refine q215 g1 (by omega) (by omega) (by omega) (by decide) (fun q => by omega) (fun G2 g2 => ?_)
  exact qnx hx g2 jl (fun G3 H3 g3 => hK _ _ G3 H3 g3 h3 h5)
theorem lw3 {u : Nat} {x0 : Int32} {G : am_I} {H : am_J} {E : Int32 → am_I → am_J → Prop} (h19 : G 66 19 = 0) (h : w_224 x0 G H (fun q I L => lw_213_20 u x0 q I L E)) : lw_213_20 (u + 1) x0 3 G H E := by
  unfold lw_213_20
  rw [h19, if_pos rfl, if_neg (by decide), if_neg (by decide), if_neg (by decide), if_pos rfl]
  exact h
theorem lw1 {u : Nat} {x0 : Int32} {G : am_I} {H : am_J} {E : Int32 → am_I → am_J → Prop} (h19 : G 66 19 = 0) (h : w_218 G H (fun q I L => lw_213_20 u x0 q I L E)) : lw_213_20 (u + 1) x0 1 G H E := by
  unfold lw_213_20
  rw [h19, if_pos rfl, if_neg (by decide), if_neg (by decide), if_pos rfl]
  exact h
theorem lw0 {u : Nat} {x0 : Int32} {G : am_I} {H : am_J} {E : Int32 → am_I → am_J → Prop} (h19 : G 66 19 = 0) (h : w_214 G H (fun q I L => lw_213_20 u x0 q I L E)) : lw_213_20 (u + 1) x0 0 G H E := by
  unfold lw_213_20
  rw [h19, if_pos rfl, if_neg (by decide), if_pos rfl]
  exact h
theorem lw2 {u : Nat} {x0 : Int32} {G : am_I} {H : am_J} {E : Int32 → am_I → am_J → Prop} (h19 : G 66 19 = 0) (h : w_229 G H (fun q I L => lw_213_20 u x0 q I L E)) : lw_213_20 (u + 1) x0 2 G H E := by
  unfold lw_213_20
  rw [h19, if_pos rfl, if_neg (by decide), if_neg (by decide), if_neg (by decide), if_neg (by decide)]
  exact h
theorem FS_19 {x : TX} {lvl s D j q : Nat} {M : Nat → Nat × Nat} {P : List (Nat × Nat)} {f : FN} {G : am_I} {H : am_J} (h : FSx x lvl s M P f D j q G H) : G 66 19 = 0 := by
  obtain ⟨A, M', s', h1, _⟩ := h
  exact h1.2.2.2.1
theorem fl_1 {A : List (Nat × Nat)} {y : Nat × Nat} {M : Nat → Nat × Nat} {s : Nat} (h : y.1 ≤ 28) : fl (A ++ [y]) M s = (up2 (fl A M s).1 (fl A M s).2 (y.1 - 16, 0), (fl A M s).2 + 1) := by
  rw [fl_app]
  have c : ¬ ao y = true := fun q => by have := of_decide_eq_true q; omega
  show (if ao y = true then _ else fl [] (up2 (fl A M s).1 (fl A M s).2 (y.1 - 16, 0)) ((fl A M s).2 + 1)) = _
  rw [if_neg c]
  rfl
theorem rt_lo {x : TX} {x0 : Int32} {lvl a b D d : Nat} {X : Nat → Nat → Rs} (hx : XOK x) (hl : (lvl = 5 ∧ a = 4 ∧ b = 5) ∨ (lvl = 6 ∧ a = 6 ∧ b = 8)) (h : RT x x0 1 3 3 (lvl + 1) D d (fun _ => True) X) : RT x x0 1 3 3 lvl (D + 1) d (fun _ => True) (lpO (xC x) a b X) := by
  intro i q s M P E hP hd _ hF hS
  have loop : ∀ k j q' f, lpO (xC x) a b X i q = lo (xC x) a b X k j q' f → GO x x0 E j 3 (fun t G H => t = 3 ∧ FSx x lvl s M P f (D + 1) j q' G H) := by
    intro k
    induction k with
    | zero => intro j q' f e; exact hS j q' f e
    | succ k ih =>
      intro j q' f e
      have e : lpO (xC x) a b X i q = (if a ≤ sgo (xC x j) ∧ sgo (xC x j) ≤ b then thn (X (j + 1) q') (fun j2 q2 g => lo (xC x) a b X k j2 q2 (bnd (sgo (xC x j)) f g)) else (j, some (q', f))) := e
      by_cases c : a ≤ sgo (xC x j) ∧ sgo (xC x j) ≤ b
      · rw [if_pos c] at e
        have sl := sgo_le (xC x j)
        have s48 : 4 ≤ sgo (xC x j) ∧ sgo (xC x j) ≤ 8 := by omega
        have elv : lvl = if sgo (xC x j) ≤ 5 then 5 else 6 := by
          rcases hl with ⟨l1, l2, l3⟩ | ⟨l1, l2, l3⟩
          · rw [if_pos (by omega)]; exact l1
          · rw [if_neg (by omega)]; exact l1
        have nx : ∀ s2 M2, (∀ k, k < s → M2 k = M k) → PC (xw x) M2 s s2 f (D + 1) → GO x x0 E (j + 1) 3 (fun t G H => t = 1 ∧ RR x (j + 1) (j + 1) q' s2 M2 ((sgo (xC x j) + 16, 0) :: P) G H) := by
          intro s2 M2 m2 p2
          have ps := p2.1
          refine h (j + 1) q' s2 M2 _ E ?_ ?_ trivial (fun j2 e2 => hF j2 (by rw [e, e2]; rfl)) (fun j2 q2 g e2 => ?_)
          · show bnN (sgo (xC x j) + 16) < lvl + 1
            rw [bnN_sg _ (by omega) (by omega), ← elv]
            omega
          · show (if 31 ≤ sgo (xC x j) + 16 then 1 else 0) + brk P + d = 8
            rw [if_neg (by omega)]
            omega
          · have hu := ih j2 q2 (bnd (sgo (xC x j)) f g) (by rw [e, e2]; rfl)
            intro u uu t G H st
            obtain ⟨A, M', s', g1, g2, g3, g4⟩ := st.2
            have f1 : fl (A ++ [(sgo (xC x j) + 16, 0)]) M' s' = (up2 (fl A M' s').1 (fl A M' s').2 (sgo (xC x j), 0), (fl A M' s').2 + 1) := fl_1 (y := (sgo (xC x j) + 16, 0)) (by show sgo (xC x j) + 16 ≤ 28; omega)
            have g4s := g4.1
            refine hu u uu t G H ⟨st.1, A ++ [(sgo (xC x j) + 16, 0)], M', s', ?_, fun y hy => ?_, fun k hk => ?_, ?_⟩
            · rw [List.append_assoc]; exact g1
            · rcases List.mem_append.mp hy with z | z
              · have := g2 y z; omega
              · rw [List.mem_singleton.mp z]
                show lvl ≤ bnN (sgo (xC x j) + 16)
                rw [bnN_sg _ (by omega) (by omega), ← elv]
                exact Nat.le_refl _
            · rw [f1]
              show up2 (fl A M' s').1 (fl A M' s').2 (sgo (xC x j), 0) k = M k
              rw [up2_n (by omega), g3 k (by omega)]
              exact m2 k hk
            · rw [f1]
              show PC (xw x) (up2 (fl A M' s').1 (fl A M' s').2 (sgo (xC x j), 0)) s ((fl A M' s').2 + 1) (bnd (sgo (xC x j)) f g) (D + 1)
              have pm := PC_bin (o := sgo (xC x j)) (w := 0) (PC_cg (M' := up2 (fl A M' s').1 (fl A M' s').2 (sgo (xC x j), 0)) p2 (fun k k1 k2 => by rw [up2_n (by omega)]; exact g3 k k2)) (PC_cg (M' := up2 (fl A M' s').1 (fl A M' s').2 (sgo (xC x j), 0)) g4 (fun k k1 k2 => up2_n (by omega))) up2_e (by omega) (by omega) (by omega)
              rw [Nat.max_eq_left (Nat.le_refl _)] at pm
              exact pm
        intro u uu t G H st
        obtain ⟨et, fs⟩ := st
        have fs' := fs
        obtain ⟨A, M', s', g1, _⟩ := fs'
        have sg := sgo_sg (show 1 ≤ sgo (xC x j) by omega)
        have jl := (RR_c hx g1).2.2.1 (by omega)
        obtain ⟨u', rfl⟩ : ∃ u', u = u' + 1 := ⟨u - 1, by omega⟩
        rw [et]
        exact lw3 (FS_19 fs) (q224p hx fs hP s48.1 s48.2 elv (fun s2 M2 G' H' g m2 p2 => nx s2 M2 m2 p2 u' (by omega) 1 G' H' ⟨rfl, g⟩))
      · rw [if_neg c] at e
        exact hS j q' f e
  exact h i q s M P E (tl_up (by omega) hP) hd trivial (fun j e => hF j (by unfold lpO; rw [e]; rfl)) (fun j q' f e => by
    have hu := loop 400 j q' f (by unfold lpO; rw [e]; rfl)
    intro u uu t G H st
    exact hu u uu t G H ⟨st.1, FS_up st.2 (by omega) (by omega)⟩)
