/-! the class's machine does what the paper's does -/
def TXc (T : Nat → Nat × Nat) (r : Nat → Nat → Option Nat) (I : am_I) (t c0 n : Nat) (C : Nat → Nat × Nat) : Prop := (am_ts T t).1 = 11 ∧ am_rs r t 0 = some c0 ∧ (am_ts T c0).1 = 20 ∧ n ≤ (am_ts T c0).2 ∧ n ≤ 400 ∧ c0 ≠ 24 ∧ c0 ≠ 26 ∧ ∀ k, k < n → I c0 k = nI ((C k).1 + 16 * (C k).2)
def frm (I J : am_I) : Prop := (∀ c, c ≠ 24 → c ≠ 26 → J c = I c) ∧ ∀ k, k ≠ 3 → J 24 k = I 24 k
theorem CWd_cg {I J : am_I} {C : Nat → Nat × Nat} {e : Nat → Nat → Int} {m k : Nat} (h : CWd I C e m k) (h25 : J 25 = I 25) (h6 : J 6 = I 6) (h7 : J 7 = I 7) : CWd J C e m k := by
  unfold CWd at h ⊢
  rw [h25, h6, h7]
  exact h
theorem ofI_inj {x y : Int} (hx : lim x) (hy : lim y) : Int32.ofInt x = Int32.ofInt y ↔ x = y := by
  unfold lim at hx hy
  constructor
  · intro h
    have q := congrArg Int32.toInt h
    rw [fb_ofI (by omega) (by omega), fb_ofI (by omega) (by omega)] at q
    exact q
  · intro h
    rw [h]
theorem ofI_64 {x : Int} (hx : lim x) : (Int32.toInt64 (Int32.ofInt x)).toInt = x := by
  unfold lim at hx
  rw [Int32.toInt_toInt64, fb_ofI (by omega) (by omega)]
theorem ofI_1m {x : Int} (hx : lim x) : 1 - Int32.ofInt x = Int32.ofInt (1 - x) := by
  unfold lim at hx
  apply Int32.toInt_inj.mp
  rw [fb_ofI (by omega) (by omega), fb_subI (by rw [fb_ofI (by omega) (by omega), show Int32.toInt 1 = 1 from rfl]; omega) (by rw [fb_ofI (by omega) (by omega), show Int32.toInt 1 = 1 from rfl]; omega), fb_ofI (by omega) (by omega)]
  rfl
theorem nz7 {x : Nat} (h : x < 2 ^ 31) (c : ¬ x = 7) : ¬ nI x = 7 := fun q => c ((nb_inj (b := 7) h (by decide)).mp q)
theorem nz12 {x : Nat} (h : x < 2 ^ 31) (c : ¬ x = 12) : ¬ nI x = 12 := fun q => c ((nb_inj (b := 12) h (by decide)).mp q)
theorem nz13 {x : Nat} (h : x < 2 ^ 31) (c : ¬ x = 13) : ¬ nI x = 13 := fun q => c ((nb_inj (b := 13) h (by decide)).mp q)
theorem l87 {T : Nat → Nat × Nat} {r : Nat → Nat → Option Nat} {I : am_I} {C : Nat → Nat × Nat} {e : Nat → Nat → Int} {m t c0 n b : Nat} {R : Option (List Int)} {E : Int32 → Int32 → Int32 → am_I → Prop} (hm : m ≤ 8) (em : I 1 10 = nI m) (hX : TXc T r I t c0 n C) (hb : b ≤ n) (hW : ∀ k, k < b → CWd I C e m k)
    (hE : ∀ J u v, frm I J → (R = none → E u 0 v J) ∧ ∀ s, R = some s → s.length ≤ 32 → J 24 3 = nI s.length → STk 1000200000 (J 26) s → E u 1 v J) : ∀ q k st s J, b - k ≤ q → st ≤ k → k ≤ 200000 → frm I J → s.length ≤ 32 → J 24 3 = nI s.length → STk (1000000000 + k) (J 26) s → run C 32 e b k s = some R → lw_87_43 (q + 1) t (nI k) (nI b) 1 (nI st) T r J E := by
  obtain ⟨x1, x2, x3, x4, x5, x6, x7, x8⟩ := hX
  intro q
  induction q with
  | zero =>
    intro k st s J hq hst hk hJ hl eh hS hR
    have kb : b ≤ k := by omega
    rw [run_end kb] at hR
    have eR := (Option.some.inj hR).symm
    have fin : ∀ u v, E u 1 v J := fun u v => (hE J u v hJ).2 s eR hl eh (STk_cg (by omega) hS (fun i _ => rfl))
    unfold lw_87_43
    by_cases c : 400 ≤ st
    · rw [if_pos (show (400 : Int32) ≤ nI st from nI_le (a := 400) c (by omega))]
      exact fin _ _
    · rw [if_neg (show ¬ (400 : Int32) ≤ nI st from nI_ge (b := 400) (by omega) (by decide)), if_pos (nI_le kb (by omega))]
      exact fin _ _
  | succ q ih =>
    intro k st s J hq hst hk hJ hl eh hS hR
    by_cases kb : b ≤ k
    · rw [run_end kb] at hR
      have eR := (Option.some.inj hR).symm
      have fin : ∀ u v, E u 1 v J := fun u v => (hE J u v hJ).2 s eR hl eh (STk_cg (by omega) hS (fun i _ => rfl))
      unfold lw_87_43
      by_cases c : 400 ≤ st
      · rw [if_pos (show (400 : Int32) ≤ nI st from nI_le (a := 400) c (by omega))]
        exact fin _ _
      · rw [if_neg (show ¬ (400 : Int32) ≤ nI st from nI_ge (b := 400) (by omega) (by decide)), if_pos (nI_le kb (by omega))]
        exact fin _ _
    · obtain ⟨j1, j2⟩ := hJ
      have hJ : frm I J := ⟨j1, j2⟩
      have hc := hW k (by omega)
      have hcJ := CWd_cg hc (j1 25 (by decide) (by decide)) (j1 6 (by decide) (by decide)) (j1 7 (by decide) (by decide))
      have c1 := hc.1
      have c2 := hc.2.1
      clear hc
      rw [run_step (by omega)] at hR
      unfold lw_87_43
      rw [if_neg (show ¬ (400 : Int32) ≤ nI st from nI_ge (b := 400) (by omega) (by decide)), if_neg (nI_ge (by omega) (by omega)), if_neg (by decide)]
      have gk : ¬ (nI k < 0 ∨ (am_ts T c0).2 ≤ Int32.toNatClampNeg (nI k)) := by
        rw [nI_clamp (by omega)]
        rintro (g | g)
        · exact nI_pos (by omega) g
        · omega
      refine ⟨x1, c0, x2, x3, gk, x1, c0, x2, x3, gk, ?_⟩
      have ec : J c0 (Int32.toNatClampNeg (nI k)) = nI ((C k).1 + 16 * (C k).2) := by
        rw [nI_clamp (by omega), j1 c0 x6 x7]
        exact x8 k (by omega)
      have eo : nI ((C k).1 + 16 * (C k).2) - nI ((C k).1 + 16 * (C k).2) / 16 * 16 = nI (C k).1 := by
        rw [show nI ((C k).1 + 16 * (C k).2) - nI ((C k).1 + 16 * (C k).2) / 16 * 16 = nI (((C k).1 + 16 * (C k).2) % 16) from pk_rem (d := 16) (by omega) (by decide) (by decide), show ((C k).1 + 16 * (C k).2) % 16 = (C k).1 by omega]
      have ew : nI ((C k).1 + 16 * (C k).2) / 16 = nI (C k).2 := by
        rw [show nI ((C k).1 + 16 * (C k).2) / 16 = nI (((C k).1 + 16 * (C k).2) / 16) from pk_div (d := 16) (by omega) (by decide) (by decide), show ((C k).1 + 16 * (C k).2) / 16 = (C k).2 by omega]
      rw [ec, eo, ew, ← nI_succ, ← nI_succ]
      unfold stp at hR
      by_cases o4 : (C k).1 < 4
      · rw [if_pos o4] at hR
        rw [if_neg (show ¬ (4 : Int32) ≤ nI (C k).1 from nI_ge (b := 4) o4 (by decide))]
        by_cases l32 : s.length < 32
        · rw [if_pos l32] at hR
          refine q89 hm (by rw [j1 1 (by decide) (by decide)]; exact em) hcJ o4 l32 eh (fun v1 v2 => ?_)
          have hR : run C 32 e b (k + 1) (lv e (C k).1 (C k).2 :: s) = some R := hR
          refine ih (k + 1) (st + 1) (lv e (C k).1 (C k).2 :: s) _ (by omega) (by omega) (by omega) ⟨fun c c24 c26 => by rw [uu_h c24, uu_h c26]; exact j1 c c24 c26, fun i hi => by rw [uu_n hi, uu_c (by decide)]; exact j2 i hi⟩ (by rw [List.length_cons]; omega) (by rw [uu_e]; rfl) ⟨?_, by omega, by omega, STk_cg (by omega) hS (fun i hi => ?_)⟩ hR
          · rw [uu_c (by decide), uu_e]
          · rw [uu_c (by decide), uu_n (by omega)]
        · rw [if_neg l32] at hR
          cases hR
      · rw [if_neg o4] at hR
        rw [if_pos (show (4 : Int32) ≤ nI (C k).1 from nI_le (a := 4) (by omega) (by omega))]
        by_cases o12 : (C k).1 < 12
        · rw [if_pos o12] at hR
          rw [if_neg (show ¬ (12 : Int32) ≤ nI (C k).1 from nI_ge (b := 12) o12 (by decide))]
          cases s with
          | nil => cases hR
          | cons y s1 =>
            cases s1 with
            | nil => cases hR
            | cons x s2 =>
              obtain ⟨t1, t2, t3, t4⟩ := hS
              obtain ⟨u1, u2, u3, u4⟩ := t4
              have h2 : 2 ≤ (y :: x :: s2).length := by
                rw [List.length_cons, List.length_cons]
                omega
              have y1 : J 24 3 - 1 = nI ((x :: s2).length) := by
                rw [eh, List.length_cons]
                exact nb_sub (b := 1) (by omega)
              have y2 : J 24 3 - 2 = nI (s2.length) := by
                rw [eh, List.length_cons, List.length_cons]
                exact nb_sub (b := 2) (by omega)
              have ll : (x :: s2).length < 32 := by
                rw [List.length_cons] at hl
                omega
              have ll2 : s2.length < 32 := by
                rw [List.length_cons] at ll
                omega
              have lx : lim x := ⟨by omega, by omega⟩
              have ly : lim y := ⟨by omega, by omega⟩
              unfold w_90
              rw [if_pos (show (2 : Int32) ≤ J 24 3 by rw [eh]; exact nI_le (a := 2) h2 (by omega))]
              rw [y1, y2]
              refine ⟨nb_gd ll2 (by decide), nb_gd ll (by decide), ?_⟩
              rw [nI_clamp (by omega : s2.length < 2 ^ 31), nI_clamp (by omega : (x :: s2).length < 2 ^ 31), t1, u1]
              have hR : (match (match jn (C k).1 x y with
                | none => some none
                | some v => some (some (k + 1, v :: s2))) with
                | none => none
                | some none => some none
                | some (some q) => run C 32 e b q.1 q.2) = some R := hR
              have brk : jn (C k).1 x y = none → ∀ G : am_I, frm I G → lw_87_43 (q + 1) t (nI (k + 1)) (nI b) 0 (nI (st + 1)) T r G E := by
                intro hj G hG
                rw [hj] at hR
                have eR : R = none := (Option.some.inj hR).symm
                unfold lw_87_43
                by_cases c : 400 ≤ st + 1
                · rw [if_pos (show (400 : Int32) ≤ nI (st + 1) from nI_le (a := 400) c (by omega))]
                  exact (hE G _ _ hG).1 eR
                · rw [if_neg (show ¬ (400 : Int32) ≤ nI (st + 1) from nI_ge (b := 400) (by omega) (by decide))]
                  by_cases c' : nI b ≤ nI (k + 1)
                  · rw [if_pos c']
                    exact (hE G _ _ hG).1 eR
                  · rw [if_neg c', if_pos rfl]
                    exact (hE G _ _ hG).1 eR
              by_cases z : ((C k).1 = 7 ∨ (C k).1 = 8) ∧ y = 0
              · have hj : jn (C k).1 x y = none := by
                  unfold jn
                  rw [if_pos z]
                rw [if_pos ((lc_eq' (ofI_64 ly) (show Int64.toInt 0 = 0 from rfl)).mpr z.2)]
                by_cases c7 : (C k).1 = 7
                · rw [if_pos (by rw [c7]; rfl)]
                  exact brk hj J hJ
                · rw [if_neg (nz7 (by omega) c7), if_pos (by rw [show (C k).1 = 8 by omega]; rfl)]
                  exact brk hj J hJ
              · have go : wb_90_58 (nI (C k).1) (Int32.toInt64 (Int32.ofInt x)) (Int32.toInt64 (Int32.ofInt y)) J (fun q7 I8 => lw_87_43 (q + 1) t (nI (k + 1)) (nI b) q7 (nI (st + 1)) T r I8 E) := by
                  refine q90j (by omega) o12 (ofI_64 lx) (ofI_64 ly) lx ly z (fun v hv => ?_)
                  refine q90k hv h2 hl eh (fun w => ?_) (fun w => ?_)
                  · refine brk ?_ J hJ
                    unfold jn
                    rw [if_neg z, if_pos w]
                  · have hj : jn (C k).1 x y = some (jv (C k).1 x y) := by
                      unfold jn
                      rw [if_neg z, if_neg w]
                    rw [hj] at hR
                    have hR : run C 32 e b (k + 1) (jv (C k).1 x y :: s2) = some R := hR
                    have e1 : (y :: x :: s2).length - 1 = (jv (C k).1 x y :: s2).length := by
                      rw [List.length_cons, List.length_cons, List.length_cons]
                      omega
                    have e2 : (y :: x :: s2).length - 2 = s2.length := by
                      rw [List.length_cons, List.length_cons]
                      omega
                    rw [e1, e2]
                    refine ih (k + 1) (st + 1) (jv (C k).1 x y :: s2) _ (by omega) (by omega) (by omega) ⟨fun c c24 c26 => by rw [uu_h c26, uu_h c24]; exact j1 c c24 c26, fun i hi => by rw [uu_c (by decide), uu_n hi]; exact j2 i hi⟩ (by rw [List.length_cons]; omega) (by rw [uu_c (by decide), uu_e]) ⟨uu_e, by omega, by omega, STk_cg (by omega) u4 (fun i hi => ?_)⟩ hR
                    rw [uu_n (by omega), uu_c (by decide)]
                by_cases c : y = 0
                · rw [if_pos ((lc_eq' (ofI_64 ly) (show Int64.toInt 0 = 0 from rfl)).mpr c), if_neg (nz7 (by omega) (fun q => z ⟨Or.inl q, c⟩)), if_neg (nz8 (by omega) (fun q => z ⟨Or.inr q, c⟩))]
                  exact go
                · rw [if_neg (fun q => c ((lc_eq' (ofI_64 ly) (show Int64.toInt 0 = 0 from rfl)).mp q))]
                  exact go
        · rw [if_neg o12] at hR
          rw [if_pos (show (12 : Int32) ≤ nI (C k).1 from nI_le (a := 12) (by omega) (by omega))]
          cases s with
          | nil => cases hR
          | cons x s1 =>
            obtain ⟨t1, t2, t3, t4⟩ := hS
            have y1 : J 24 3 - 1 = nI (s1.length) := by
              rw [eh, List.length_cons]
              exact nb_sub (b := 1) (by omega)
            have ll : s1.length < 32 := by
              rw [List.length_cons] at hl
              omega
            have lx : lim x := ⟨by omega, by omega⟩
            have g1 : ¬ (nI s1.length < 0 ∨ 32 ≤ s1.length) := by
              have g := nb_gd ll (show 32 < 2 ^ 31 by decide)
              rw [nI_clamp (by omega)] at g
              exact g
            unfold w_91
            rw [if_pos (show (1 : Int32) ≤ J 24 3 by rw [eh, List.length_cons]; exact nI_le (a := 1) (by omega) (by omega)), y1]
            refine ⟨nb_gd ll (by decide), ?_⟩
            rw [nI_clamp (by omega : s1.length < 2 ^ 31), t1]
            by_cases c12 : (C k).1 = 12
            · have hR : (match (if (C k).1 = 12 then some (some (k + 1, (1 - x) :: s1)) else if x = (if (C k).1 = 13 then 1 else 0) then some (some (max (k + 1) (C k).2, x :: s1)) else some (some (k + 1, s1))) with
                | none => none
                | some none => some none
                | some (some q) => run C 32 e b q.1 q.2) = some R := hR
              rw [if_pos c12] at hR
              have hR : run C 32 e b (k + 1) ((1 - x) :: s1) = some R := hR
              rw [if_pos (by rw [c12]; rfl)]
              refine ⟨g1, ?_⟩
              refine am_ifp rfl ?_
              rw [ofI_1m lx]
              refine ih (k + 1) (st + 1) ((1 - x) :: s1) _ (by omega) (by omega) (by omega) ⟨fun c c24 c26 => by rw [uu_h c26]; exact j1 c c24 c26, fun i hi => by rw [uu_c (by decide)]; exact j2 i hi⟩ (by rw [List.length_cons]; omega) (by rw [uu_c (by decide), eh]; rfl) ⟨uu_e, by omega, by omega, STk_cg (by omega) t4 (fun i hi => by rw [uu_n (by omega)])⟩ hR
            · rw [if_neg (nz12 (by omega) c12)]
              have hR : (match (if (C k).1 = 12 then some (some (k + 1, (1 - x) :: s1)) else if x = (if (C k).1 = 13 then 1 else 0) then some (some (max (k + 1) (C k).2, x :: s1)) else some (some (k + 1, s1))) with
                | none => none
                | some none => some none
                | some (some q) => run C 32 e b q.1 q.2) = some R := hR
              rw [if_neg c12] at hR
              have jmp : run C 32 e b (max (k + 1) (C k).2) (x :: s1) = some R → lw_87_43 (q + 1) t (if nI (k + 1) < nI (C k).2 then nI (C k).2 else nI (k + 1)) (nI b) 1 (nI (st + 1)) T r J E := by
                intro hR'
                have em' : (if nI (k + 1) < nI (C k).2 then nI (C k).2 else nI (k + 1)) = nI (max (k + 1) (C k).2) := by
                  by_cases c : k + 1 < (C k).2
                  · rw [if_pos (nI_lt c (by omega)), Nat.max_eq_right (by omega)]
                  · rw [if_neg (nI_nlt (by omega) (by omega)), Nat.max_eq_left (by omega)]
                rw [em']
                exact ih (max (k + 1) (C k).2) (st + 1) (x :: s1) J (by omega) (by omega) (by omega) hJ hl eh ⟨t1, by omega, by omega, STk_cg (by omega) t4 (fun i _ => rfl)⟩ hR'
              have pop : run C 32 e b (k + 1) s1 = some R → lw_87_43 (q + 1) t (nI (k + 1)) (nI b) 1 (nI (st + 1)) T r (am_u J 24 3 (nI s1.length)) E := by
                intro hR'
                exact ih (k + 1) (st + 1) s1 _ (by omega) (by omega) (by omega) ⟨fun c c24 c26 => by rw [uu_h c24]; exact j1 c c24 c26, fun i hi => by rw [uu_n hi]; exact j2 i hi⟩ (by omega) uu_e (STk_cg (by omega) t4 (fun i _ => by rw [uu_c (by decide)])) hR'
              by_cases c13 : (C k).1 = 13
              · rw [if_pos (by rw [c13]; rfl)]
                rw [if_pos c13] at hR
                by_cases cx : x = 1
                · rw [if_pos cx] at hR
                  rw [if_pos (show Int32.ofInt x = 1 by rw [cx]; rfl)]
                  exact am_ifn (by decide) (jmp hR)
                · rw [if_neg cx] at hR
                  rw [if_neg (show ¬ Int32.ofInt x = 1 from fun q => cx ((ofI_inj lx (y := 1) ⟨by decide, by decide⟩).mp q))]
                  exact am_ifp rfl (pop hR)
              · rw [if_neg (nz13 (by omega) c13)]
                rw [if_neg c13] at hR
                by_cases cx : x = 0
                · rw [if_pos cx] at hR
                  rw [if_pos (show Int32.ofInt x = 0 by rw [cx]; rfl)]
                  exact am_ifn (by decide) (jmp hR)
                · rw [if_neg cx] at hR
                  rw [if_neg (show ¬ Int32.ofInt x = 0 from fun q => cx ((ofI_inj lx (y := 0) ⟨by decide, by decide⟩).mp q))]
                  exact am_ifp rfl (pop hR)
