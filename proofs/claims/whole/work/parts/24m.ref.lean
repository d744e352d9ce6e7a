/-! the reference reads: plain tests -/
def nts (N : Nat) : List (Nat × Nat) := List.replicate N (28, 0)
theorem nts_m {N : Nat} {y : Nat × Nat} (h : y ∈ nts N) : y = (28, 0) := List.eq_of_mem_replicate h
theorem ntf_s (N : Nat) (f : FN) : ntf (N + 1) f = ntf N (ntd f) := by
  unfold ntf
  by_cases c : N % 2 = 1
  · rw [if_neg (by omega), if_pos c, ntd_2]
  · rw [if_pos (by omega), if_neg c]
theorem fl_nts {law : Bool} {a D : Nat} : ∀ (N : Nat) (M : Nat → Nat × Nat) (s : Nat) (f : FN), PC law M a s f D → PC law (fl (nts N) M s).1 a (fl (nts N) M s).2 (ntf N f) D ∧ ∀ k, k < s → (fl (nts N) M s).1 k = M k
  | 0, M, s, f, h => ⟨h, fun _ _ => rfl⟩
  | N + 1, M, s, f, h => by
    have e : fl (nts (N + 1)) M s = fl (nts N) (up2 M s (12, 0)) (s + 1) := rfl
    have ps := h.1
    have pn := PC_not (PC_cg (M' := up2 M s (12, 0)) h (fun k k1 k2 => up2_n (by omega))) up2_e (by decide)
    obtain ⟨i1, i2⟩ := fl_nts N (up2 M s (12, 0)) (s + 1) (ntd f) pn
    rw [e, ntf_s]
    refine ⟨i1, fun k hk => ?_⟩
    rw [i2 k (by omega), up2_n (by omega)]
theorem tl_nts {N : Nat} {P : List (Nat × Nat)} {lvl : Nat} (hl : 4 ≤ lvl) (hP : toplt 3 P) : toplt lvl (nts N ++ P) := by
  cases N with
  | zero => exact tl_up (by omega) hP
  | succ N =>
    show bnN 28 < lvl
    have : bnN 28 = 3 := rfl
    omega
theorem inr_nts {N : Nat} {P : List (Nat × Nat)} : inr (nts N ++ P) = inr P := inr_app _ _ (fun y hy => by rw [nts_m hy]; decide)
theorem brk_nts {N : Nat} {P : List (Nat × Nat)} : brk (nts N ++ P) = brk P := brk_app _ _ (fun y hy => by rw [nts_m hy]; decide)
theorem cmpd_nts {N : Nat} {P : List (Nat × Nat)} (hP : toplt 3 P) : cmpd (nts N ++ P) = false := by
  cases N with
  | zero =>
    cases P with
    | nil => rfl
    | cons y t =>
      have h : bnN y.1 < 3 := hP
      have y29 : 29 ≤ y.1 := by
        unfold bnN at h
        by_cases c : 29 ≤ y.1
        · exact c
        · rw [if_neg (by omega), if_neg (by omega), if_neg (by omega)] at h
          split at h
          · omega
          · split at h
            · omega
            · split at h <;> omega
      show (if y.1 ≤ 24 then cmpd t else decide (y.1 ≤ 27)) = false
      rw [if_neg (by omega)]
      exact decide_eq_false (by omega)
  | succ N => rfl
theorem lw1_inv {u : Nat} {x0 : Int32} {G : am_I} {H : am_J} {E : Int32 → am_I → am_J → Prop} (h19 : G 66 19 = 0) (h : lw_213_20 (u + 1) x0 1 G H E) : w_218 G H (fun q I L => lw_213_20 u x0 q I L E) := by
  unfold lw_213_20 at h
  rw [h19, if_pos rfl, if_neg (by decide), if_neg (by decide), if_pos rfl] at h
  exact h
/-- a sign of comparing -/
theorem q163 {x : TX} {j q s : Nat} {M : Nat → Nat × Nat} {A P : List (Nat × Nat)} {G : am_I} {H : am_J} {K : Int32 → am_I → am_J → Prop} (hx : XOK x) (h : RR x j j q s M (A ++ P) G H) (hA : ∀ y, y ∈ A → 5 ≤ bnN y.1) (hP : toplt 5 P) (hc : cmpd P = false) (k0 : ¬ (9 ≤ sgo (xC x j) ∧ sgo (xC x j) ≤ 11) → ∀ G' H', RB x j G' H' → K 1 G' H') (k1 : 9 ≤ sgo (xC x j) → sgo (xC x j) ≤ 11 → ∀ G' H', RR x (j + 1) (j + 1) q (fl A M s).2 (fl A M s).1 ((sgo (xC x j) + 16, 0) :: P) G' H' → K 1 G' H') : wb_224_163 G H K := by
  obtain ⟨r1, r2, r3, r4⟩ := RR_c hx h
  unfold wb_224_163
  refine q228 h.2.2.2.2.2.2.2.1 ?_
  rw [cmpd_ar A P (fun y hy => bn_ar (hA y hy)), hc]
  refine am_ifp rfl ?_
  have good : 9 ≤ sgo (xC x j) → sgo (xC x j) ≤ 11 → wb_224_224 (nI (sgo (xC x j) + 16)) 1 G H K := by
    intro c9 c11
    have sg := sgo_sg (show 1 ≤ sgo (xC x j) by omega)
    have jl := r3 (by omega)
    unfold wb_224_224
    refine q212t hx h jl (fun G1 H1 g1 => ?_)
    rw [g1.2.2.2.1]
    refine am_ifp rfl (q226s (lvl := 5) g1 (by decide) (by decide) hP hA (fun G2 g2 => ?_))
    rw [show (0 : Int32) = nI 0 from rfl]
    exact q215 g2 (by omega) (by omega) (by omega) (by decide) (fun q => by omega) (fun G3 g3 => k1 c9 c11 G3 H1 g3)
  rw [show f_216 60 G H = b1 (decide (xC x j = 2000000 + 60)) from f216 (ch := 60) h.1 (by decide) rfl, show f_216 62 G H = b1 (decide (xC x j = 2000000 + 62)) from f216 (ch := 62) h.1 (by decide) rfl]
  have f61 : f_216 61 G H = b1 (decide (xC x j = 2000000 + 61)) := f216 (ch := 61) h.1 (by decide) rfl
  refine ifd (fun a1 => ifd (fun a2 => ?_) (fun a2 => ?_)) (fun a1 => ?_)
  · unfold wb_224_202
    rw [if_pos rfl, f61]
    refine ifd (fun a3 => ?_) (fun a3 => ?_)
    · have ns : ¬ (9 ≤ sgo (xC x j) ∧ sgo (xC x j) ≤ 11) := by
        intro q
        generalize xC x j = c at *
        unfold sgo at q
        rw [if_neg (show ¬ c = 2000060 by omega), if_neg (show ¬ c = 2000061 by omega), if_neg (show ¬ c = 2000062 by omega)] at q
        split at q
        · omega
        · split at q
          · omega
          · split at q
            · omega
            · split at q
              · omega
              · split at q <;> omega
      unfold wb_224_224
      refine q212f h (fun G1 g1 => ?_)
      rw [g1.2.1]
      exact am_ifn (by decide) (k0 ns G1 H g1)
    · have e : xC x j = 2000061 := by omega
      have es : sgo (xC x j) = 11 := by rw [e]; rfl
      have g := good (by omega) (by omega)
      rw [es] at g
      exact g
  · have e : xC x j = 2000062 := by omega
    have es : sgo (xC x j) = 10 := by rw [e]; rfl
    have g := good (by omega) (by omega)
    rw [es] at g
    unfold wb_224_202
    rw [if_neg (by decide)]
    exact g
  · have e : xC x j = 2000060 := by omega
    have es : sgo (xC x j) = 9 := by rw [e]; rfl
    have g := good (by omega) (by omega)
    rw [es] at g
    unfold wb_224_202
    rw [if_neg (by decide)]
    exact g
