/-! the reference's machine does what the paper's does -/
theorem rin {v : Int64} {z : Int} (e : v.toInt = z) : (f_182 v (-1000000000) 1000000000 = 0 ∧ (1000000000 < z ∨ z < -1000000000)) ∨ (f_182 v (-1000000000) 1000000000 = 1 ∧ ¬ (1000000000 < z ∨ z < -1000000000)) := by
  unfold f_182
  by_cases c1 : z < -1000000000
  · rw [if_pos ((lc_lt' e (show Int64.toInt (-1000000000) = -1000000000 from rfl)).mpr c1)]
    exact Or.inl ⟨rfl, Or.inr c1⟩
  · rw [if_neg (fun q => c1 ((lc_lt' e (show Int64.toInt (-1000000000) = -1000000000 from rfl)).mp q))]
    by_cases c2 : 1000000000 < z
    · rw [if_pos ((lc_gt' e (show Int64.toInt 1000000000 = 1000000000 from rfl)).mpr c2)]
      exact Or.inl ⟨rfl, Or.inl c2⟩
    · rw [if_neg (fun q => c2 ((lc_gt' e (show Int64.toInt 1000000000 = 1000000000 from rfl)).mp q))]
      exact Or.inr ⟨rfl, by omega⟩
/-- two numbers joined, by the reference: broken or not -/
theorem q240 {o : Nat} {a b : Int64} {x y : Int} {I : am_I} {K : Int64 → am_I → Prop} (h1 : 4 ≤ o) (h2 : o < 12) (e0 : I 66 38 = 0) (ha : a.toInt = x) (hb : b.toInt = y) (hx : lim x) (hy : lim y) (k0 : ((o = 7 ∨ o = 8) ∧ y = 0) → ∀ v, K v (am_u I 66 38 1)) (k1 : ¬ ((o = 7 ∨ o = 8) ∧ y = 0) → ∀ v : Int64, v.toInt = jv o x y → K v I) : w_240 (nI (o + 16)) a b I K := by
  have e1 : am_u I 66 38 0 = I := uu_same e0
  unfold w_240
  rcases o_cases h1 h2 with rfl | rfl | rfl | rfl | rfl | rfl | rfl | rfl
  · rw [if_pos (by decide)]
    exact k1 (by omega) _ (lj_add ha hb hx hy)
  · rw [if_neg (by decide), if_pos (by decide)]
    exact k1 (by omega) _ (lj_sub ha hb hx hy)
  · rw [if_neg (by decide), if_neg (by decide), if_pos (by decide)]
    exact k1 (by omega) _ (lj_mul ha hb hx hy)
  · rw [if_neg (by decide), if_neg (by decide), if_neg (by decide), if_pos (by decide)]
    by_cases y0 : y = 0
    · rw [if_pos ((lc_eq' hb (show Int64.toInt 0 = 0 from rfl)).mpr y0), if_neg (by decide)]
      exact k0 ⟨Or.inl rfl, y0⟩ _
    · rw [if_neg (fun q => y0 ((lc_eq' hb (show Int64.toInt 0 = 0 from rfl)).mp q)), if_pos rfl, e1]
      refine ⟨fun q => y0 ?_, k1 (fun q => y0 q.2) _ (lj_div ha hb hx)⟩
      rw [← hb, q]
      rfl
  · rw [if_neg (by decide), if_neg (by decide), if_neg (by decide), if_neg (by decide), if_pos (by decide)]
    by_cases y0 : y = 0
    · rw [if_pos ((lc_eq' hb (show Int64.toInt 0 = 0 from rfl)).mpr y0), if_neg (by decide)]
      exact k0 ⟨Or.inr rfl, y0⟩ _
    · rw [if_neg (fun q => y0 ((lc_eq' hb (show Int64.toInt 0 = 0 from rfl)).mp q)), if_pos rfl, e1]
      refine ⟨fun q => y0 ?_, k1 (fun q => y0 q.2) _ (lj_mod ha hb hx hy)⟩
      rw [← hb, q]
      rfl
  · rw [if_neg (by decide), if_neg (by decide), if_neg (by decide), if_neg (by decide), if_neg (by decide), if_pos (by decide)]
    by_cases c : x < y
    · rw [if_neg (by rw [i0le, lc_lt' ha hb]; exact fun q => q c)]
      exact k1 (by omega) 1 (by show (1 : Int) = (if x < y then 1 else 0); rw [if_pos c])
    · rw [if_pos (by rw [i0le, lc_lt' ha hb]; exact c)]
      exact k1 (by omega) 0 (by show (0 : Int) = (if x < y then 1 else 0); rw [if_neg c])
  · rw [if_neg (by decide), if_neg (by decide), if_neg (by decide), if_neg (by decide), if_neg (by decide), if_neg (by decide), if_pos (by decide)]
    by_cases c : y < x
    · rw [if_neg (by rw [ile0, lc_gt' ha hb]; exact fun q => q c)]
      exact k1 (by omega) 1 (by show (1 : Int) = (if y < x then 1 else 0); rw [if_pos c])
    · rw [if_pos (by rw [ile0, lc_gt' ha hb]; exact c)]
      exact k1 (by omega) 0 (by show (0 : Int) = (if y < x then 1 else 0); rw [if_neg c])
  · rw [if_neg (by decide), if_neg (by decide), if_neg (by decide), if_neg (by decide), if_neg (by decide), if_neg (by decide), if_neg (by decide)]
    by_cases c : x = y
    · rw [if_pos ((lc_eq' ha hb).mpr c)]
      exact k1 (by omega) 1 (by show (1 : Int) = (if x = y then 1 else 0); rw [if_pos c])
    · rw [if_neg (fun q => c ((lc_eq' ha hb).mp q))]
      exact k1 (by omega) 0 (by show (0 : Int) = (if x = y then 1 else 0); rw [if_neg c])
def frR (I J : am_I) (L M : am_J) : Prop := (∀ c, c ≠ 66 → J c = I c) ∧ (∀ k, k ≠ 38 → J 66 k = I 66 k) ∧ ∀ c, c ≠ 86 → M c = L c
theorem RWd_cg {I J : am_I} {L M : am_J} {ord : Bool} {bs m k : Nat} {C : Nat → Nat × Nat} {e : Nat → Nat → Int} (h : RWd I L ord bs C e m k) (h1 : ∀ c, c ≠ 66 → J c = I c) (h2 : ∀ c, c ≠ 86 → M c = L c) : RWd J M ord bs C e m k := by
  unfold RWd at h ⊢
  rw [h1 68 (by decide), h1 77 (by decide), h1 78 (by decide), h2 84 (by decide), h2 85 (by decide)]
  exact h
theorem l239 {I : am_I} {L : am_J} {ord : Bool} {bs m b : Nat} {C : Nat → Nat × Nat} {e : Nat → Nat → Int} {R : Option (List Int)} {E : Int32 → Int32 → am_I → am_J → Prop} (hm : m ≤ 8) (em : I 68 1 = nI m) (eo : I 66 20 = b1 ord) (hbs : ord = false → bs ≤ 4610 ∧ I 66 34 = nI bs) (hb : b ≤ 400) (hW : ∀ k, k < b → RWd I L ord bs C e m k)
    (hE : ∀ J M u w, frR I J L M → (R = none → J 66 38 = 1 → E u w J M) ∧ ∀ s, R = some s → u = nI s.length → s.length ≤ 400 → J 66 38 = 0 → LSk 1000200000 (M 86) s → E u w J M) : ∀ q k s J M, b - k ≤ q → k ≤ 200000 → frR I J L M → J 66 38 = 0 → s.length ≤ 400 → LSk (1000000000 + k) (M 86) s → run C 400 e b k s = some R → lw_239_10 (q + 1) (nI b) (nI s.length) (nI k) J M E := by
  intro q
  induction q with
  | zero =>
    intro k s J M hq hk hJ e0 hl hS hR
    have kb : b ≤ k := by omega
    rw [run_end kb] at hR
    have eR := (Option.some.inj hR).symm
    unfold lw_239_10
    rw [if_pos (nI_le kb (by omega))]
    exact (hE J M _ _ hJ).2 s eR rfl hl e0 (LSk_cg (by omega) hS (fun i _ => rfl))
  | succ q ih =>
    intro k s J M hq hk hJ e0 hl hS hR
    by_cases kb : b ≤ k
    · rw [run_end kb] at hR
      have eR := (Option.some.inj hR).symm
      unfold lw_239_10
      rw [if_pos (nI_le kb (by omega))]
      exact (hE J M _ _ hJ).2 s eR rfl hl e0 (LSk_cg (by omega) hS (fun i _ => rfl))
    · have j1 := hJ.1
      have j2 := hJ.2.1
      have j3 := hJ.2.2
      have hc := RWd_cg (hW k (by omega)) j1 j3
      have c1 := hc.1
      have c2 := hc.2.1
      have J68 : J 68 = I 68 := j1 68 (by decide)
      have eo' : J 66 20 = b1 ord := (j2 20 (by decide)).trans eo
      rw [run_step (by omega)] at hR
      have main : wb_239_95 (nI b) (nI s.length) (nI k) (nI (rpo ord (C k).1 (C k).2)) (nI (rpa (C k).1 (C k).2)) J M (fun v3 v4 I L => lw_239_10 (q + 1) (nI b) v3 v4 I L E) E := by
        unfold stp at hR
        have brk : R = none → ∀ (u w : Int32) (G : am_I) (N : am_J), frR I G L N → G 66 38 = 1 → lw_239_10 (q + 1) (nI b) u w G N E := by
          intro eR u w G N hG g1
          unfold lw_239_10
          by_cases c : nI b ≤ w
          · rw [if_pos c]
            exact (hE G N _ _ hG).1 eR g1
          · rw [if_neg c, if_neg (by rw [g1]; decide)]
            exact (hE G N _ _ hG).1 eR g1
        by_cases o4 : (C k).1 < 4
        · rw [if_pos o4] at hR
          by_cases l4 : s.length < 400
          · rw [if_pos l4] at hR
            refine q239l hm (by rw [J68]; exact em) eo' hc o4 l4 (fun v v0 v1 v2 => ?_)
            have hR : run C 400 e b (k + 1) (lv e (C k).1 (C k).2 :: s) = some R := hR
            refine ih (k + 1) (lv e (C k).1 (C k).2 :: s) J _ (by omega) (by omega) ⟨j1, j2, fun c hc => by rw [uu_h hc]; exact j3 c hc⟩ e0 (by rw [List.length_cons]; omega) ⟨by rw [uu_e]; exact v0, by omega, by omega, LSk_cg (by omega) hS (fun i hi => by rw [uu_n (by omega)])⟩ hR
          · rw [if_neg l4] at hR
            cases hR
        · rw [if_neg o4] at hR
          by_cases o12 : (C k).1 < 12
          · rw [if_pos o12] at hR
            have rp : rpo ord (C k).1 (C k).2 = (C k).1 + 16 := by
              unfold rpo
              rw [if_neg (by omega), if_neg (by omega), if_neg (by omega), if_neg (by omega), if_pos o12]
            cases s with
            | nil => cases hR
            | cons y s1 =>
              cases s1 with
              | nil => cases hR
              | cons x s2 =>
                obtain ⟨t1, t2, t3, t4⟩ := hS
                obtain ⟨u1, u2, u3, u4⟩ := t4
                have ll : (x :: s2).length < 400 := by
                  rw [List.length_cons] at hl
                  omega
                have ll2 : s2.length < 400 := by
                  rw [List.length_cons] at ll
                  omega
                have y1 : nI (y :: x :: s2).length + (-1) = nI ((x :: s2).length) := by
                  rw [Int32.add_neg_eq_sub, List.length_cons]
                  exact nb_sub (b := 1) (by omega)
                have y2 : nI ((x :: s2).length) - 1 = nI (s2.length) := by
                  rw [List.length_cons]
                  exact nb_sub (b := 1) (by omega)
                have lx : lim x := ⟨by omega, by omega⟩
                have ly : lim y := ⟨by omega, by omega⟩
                have hR : (match (match jn (C k).1 x y with
                  | none => some none
                  | some v => some (some (k + 1, v :: s2))) with
                  | none => none
                  | some none => some none
                  | some (some q) => run C 400 e b q.1 q.2) = some R := hR
                unfold wb_239_95
                rw [rp, if_pos (show (20 : Int32) ≤ nI ((C k).1 + 16) from nI_le (a := 20) (by omega) (by omega)), if_neg (show ¬ (28 : Int32) ≤ nI ((C k).1 + 16) from nI_ge (b := 28) (by omega) (by decide)), y1]
                unfold wb_239_248
                rw [y2, ← nI_succ]
                have gx : ¬ (nI s2.length < 0 ∨ 400 ≤ Int32.toNatClampNeg (nI s2.length)) := nb_gd ll2 (by decide)
                refine ⟨gx, nb_gd ll (by decide), ?_⟩
                rw [nI_clamp (by omega : s2.length < 2 ^ 31)] at gx ⊢
                rw [nI_clamp (by omega : (x :: s2).length < 2 ^ 31)]
                refine q240 (x := x) (y := y) (by omega) o12 e0 u1 t1 lx ly (fun z v => ?_) (fun z v hv => ?_)
                · have hj : jn (C k).1 x y = none := by
                    unfold jn
                    rw [if_pos z]
                  rw [hj] at hR
                  have eR : R = none := (Option.some.inj hR).symm
                  refine ⟨gx, ?_⟩
                  refine am_ifn (by rw [uu_e]; decide) ?_
                  exact brk eR _ _ _ _ ⟨fun c hc => by rw [uu_h hc, uu_h hc]; exact j1 c hc, fun i hi => by rw [uu_n hi, uu_n hi]; exact j2 i hi, fun c hc => by rw [uu_h hc]; exact j3 c hc⟩ uu_e
                · refine ⟨gx, ?_⟩
                  refine am_ifp e0 ⟨gx, ?_⟩
                  rw [uu_e]
                  rcases rin hv with ⟨f, w⟩ | ⟨f, w⟩
                  · have hj : jn (C k).1 x y = none := by
                      unfold jn
                      rw [if_neg z, if_pos w]
                    rw [hj] at hR
                    have eR : R = none := (Option.some.inj hR).symm
                    rw [if_pos f]
                    exact brk eR _ _ _ _ ⟨fun c hc => by rw [uu_h hc]; exact j1 c hc, fun i hi => by rw [uu_n hi]; exact j2 i hi, fun c hc => by rw [uu_h hc]; exact j3 c hc⟩ uu_e
                  · have hj : jn (C k).1 x y = some (jv (C k).1 x y) := by
                      unfold jn
                      rw [if_neg z, if_neg w]
                    rw [hj] at hR
                    have hR : run C 400 e b (k + 1) (jv (C k).1 x y :: s2) = some R := hR
                    rw [if_neg (by rw [f]; decide), uu_same e0]
                    have le : (x :: s2).length = (jv (C k).1 x y :: s2).length := rfl
                    rw [le]
                    refine ih (k + 1) (jv (C k).1 x y :: s2) J _ (by omega) (by omega) ⟨j1, j2, fun c hc => by rw [uu_h hc]; exact j3 c hc⟩ e0 (by rw [List.length_cons]; omega) ⟨by rw [uu_e]; exact hv, by omega, by omega, LSk_cg (by omega) u4 (fun i hi => by rw [uu_n (by omega)])⟩ hR
          · rw [if_neg o12] at hR
            cases s with
            | nil => cases hR
            | cons x s1 =>
              obtain ⟨t1, t2, t3, t4⟩ := hS
              have ll : s1.length < 400 := by
                rw [List.length_cons] at hl
                omega
              have y1 : nI (x :: s1).length - 1 = nI (s1.length) := by
                rw [List.length_cons]
                exact nb_sub (b := 1) (by omega)
              have y1' : nI (x :: s1).length + (-1) = nI (s1.length) := by
                rw [Int32.add_neg_eq_sub]
                exact y1
              have lx : lim x := ⟨by omega, by omega⟩
              have hR : (match (if (C k).1 = 12 then some (some (k + 1, (1 - x) :: s1)) else if x = (if (C k).1 = 13 then 1 else 0) then some (some (max (k + 1) (C k).2, x :: s1)) else some (some (k + 1, s1))) with
                | none => none
                | some none => some none
                | some (some q) => run C 400 e b q.1 q.2) = some R := hR
              have gx : ¬ (nI s1.length < 0 ∨ 400 ≤ Int32.toNatClampNeg (nI s1.length)) := nb_gd ll (by decide)
              unfold wb_239_95
              rw [y1]
              rw [nI_clamp (by omega : s1.length < 2 ^ 31)] at gx ⊢
              by_cases c12 : (C k).1 = 12
              · rw [if_pos c12] at hR
                have hR : run C 400 e b (k + 1) ((1 - x) :: s1) = some R := hR
                have rp : rpo ord (C k).1 (C k).2 = 28 := by
                  rw [c12]
                  rfl
                rw [rp, if_pos (by decide), if_pos (by decide), if_pos (by decide), ← nI_succ]
                refine ⟨gx, gx, ?_⟩
                have le : (x :: s1).length = ((1 - x) :: s1).length := rfl
                rw [le]
                refine ih (k + 1) ((1 - x) :: s1) J _ (by omega) (by omega) ⟨j1, j2, fun c hc => by rw [uu_h hc]; exact j3 c hc⟩ e0 (by rw [List.length_cons]; omega) ⟨?_, by omega, by omega, LSk_cg (by omega) t4 (fun i hi => by rw [uu_n (by omega)])⟩ hR
                rw [uu_e]
                exact lj_sub (a := 1) (x := 1) rfl t1 ⟨by decide, by decide⟩ lx
              · rw [if_neg c12] at hR
                have rpge : 29 ≤ rpo ord (C k).1 (C k).2 ∧ rpo ord (C k).1 (C k).2 ≤ 30 := by
                  unfold rpo
                  rw [if_neg (by omega), if_neg (by omega), if_neg (by omega), if_neg (by omega), if_neg o12, if_neg c12]
                  split <;> omega
                have ra : rpa (C k).1 (C k).2 = (C k).2 := by
                  unfold rpa
                  rw [if_neg (by omega), if_neg (by omega), if_neg (by omega), if_pos (by omega)]
                rw [if_pos (show (20 : Int32) ≤ nI (rpo ord (C k).1 (C k).2) from nI_le (a := 20) (by omega) (by omega)), if_pos (show (28 : Int32) ≤ nI (rpo ord (C k).1 (C k).2) from nI_le (a := 28) (by omega) (by omega)), if_neg (show ¬ nI (rpo ord (C k).1 (C k).2) = 28 from fun q => by
                  have := (nb_inj (b := 28) (by omega) (by decide)).mp q
                  omega), ra]
                refine ⟨gx, ?_⟩
                have hS' : LSk (1000000000 + k) (M 86) (x :: s1) := ⟨t1, t2, t3, t4⟩
                have jmp : run C 400 e b (max (k + 1) (C k).2) (x :: s1) = some R → (C k).2 = max (k + 1) (C k).2 → lw_239_10 (q + 1) (nI b) (nI (x :: s1).length) (nI (C k).2) J M E := by
                  intro hR' hmx
                  rw [← hmx] at hR'
                  exact ih (C k).2 (x :: s1) J M (by omega) (by omega) hJ e0 hl (LSk_cg (by omega) hS' (fun i _ => rfl)) hR'
                have pop : run C 400 e b (k + 1) s1 = some R → lw_239_10 (q + 1) (nI b) (nI s1.length) (nI (k + 1)) J M E := by
                  intro hR'
                  exact ih (k + 1) s1 J M (by omega) (by omega) hJ e0 (by omega) (LSk_cg (by omega) t4 (fun i _ => rfl)) hR'
                have cj := hc.2.2.2.2.2.2.2 (by omega)
                by_cases c13 : (C k).1 = 13
                · rw [if_pos c13] at hR
                  have rp : rpo ord (C k).1 (C k).2 = 30 := by
                    rw [c13]
                    rfl
                  rw [rp, if_neg (by decide)]
                  unfold wb_239_363
                  by_cases cx : x = 1
                  · rw [if_pos cx] at hR
                    rw [if_pos ((lc_eq' t1 (show Int64.toInt 1 = 1 from rfl)).mpr cx)]
                    exact jmp hR (by omega)
                  · rw [if_neg cx] at hR
                    rw [if_neg (fun q => cx ((lc_eq' t1 (show Int64.toInt 1 = 1 from rfl)).mp q)), y1', ← nI_succ]
                    exact pop hR
                · rw [if_neg c13] at hR
                  have rp : rpo ord (C k).1 (C k).2 = 29 := by
                    rw [show (C k).1 = 14 by omega]
                    rfl
                  rw [rp, if_pos (by decide)]
                  unfold wb_239_363
                  by_cases cx : x = 0
                  · rw [if_pos cx] at hR
                    rw [if_pos ((lc_eq' t1 (show Int64.toInt 0 = 0 from rfl)).mpr cx)]
                    exact jmp hR (by omega)
                  · rw [if_neg cx] at hR
                    rw [if_neg (fun q => cx ((lc_eq' t1 (show Int64.toInt 0 = 0 from rfl)).mp q)), y1', ← nI_succ]
                    exact pop hR
      unfold lw_239_10
      rw [if_neg (nI_ge (by omega) (by omega)), if_pos e0]
      cases ord with
      | false =>
        obtain ⟨b1', b2⟩ := hbs rfl
        obtain ⟨f1, f2, _⟩ := hc.2.2.1 rfl
        have eo2 : J 66 20 = 0 := eo'
        have x0 : J 66 34 + 98 + 2 * nI k = nI (bs + 98 + 2 * k) := by
          rw [j2 34 (by decide), b2, show nI bs + 98 = nI (bs + 98) from nb_add bs 98, show 2 * nI k = nI (2 * k) from nb_mul 2 k, nb_add]
        have x1 : nI (bs + 98 + 2 * k) + 1 = nI (bs + 98 + 2 * k + 1) := nb_add _ 1
        rw [if_pos eo2, x0]
        refine ⟨nb_gd (by omega) (by decide), ?_⟩
        rw [nI_clamp (by omega), f1]
        unfold wb_239_57
        rw [if_pos eo2, x0, x1]
        refine ⟨nb_gd (by omega) (by decide), ?_⟩
        rw [nI_clamp (by omega), f2]
        exact main
      | true =>
        obtain ⟨f1, f2⟩ := hc.2.2.2.1 rfl
        have eo2 : ¬ J 66 20 = 0 := by
          rw [eo']
          decide
        have gk : ¬ (nI k < 0 ∨ 400 ≤ Int32.toNatClampNeg (nI k)) := nb_gd (by omega) (by decide)
        rw [if_neg eo2]
        refine ⟨gk, ?_⟩
        rw [nI_clamp (by omega : k < 2 ^ 31), f1]
        unfold wb_239_57
        rw [if_neg eo2]
        refine ⟨gk, ?_⟩
        rw [nI_clamp (by omega : k < 2 ^ 31), f2]
        exact main
theorem q239 {I : am_I} {L : am_J} {ord : Bool} {bs m a b : Nat} {C : Nat → Nat × Nat} {e : Nat → Nat → Int} {R : Option (List Int)} {K : am_I → am_J → Prop} (hm : m ≤ 8) (em : I 68 1 = nI m) (eo : I 66 20 = b1 ord) (hbs : ord = false → bs ≤ 4610 ∧ I 66 34 = nI bs) (hab : a ≤ b) (hb : b ≤ 400) (hW : ∀ k, k < b → RWd I L ord bs C e m k) (hR : run C 400 e b a [] = some R)
    (k0 : R = none → ∀ J M, (∀ c, c ≠ 66 → J c = I c) → (∀ k, k ≠ 38 → J 66 k = I 66 k) → J 66 38 = 1 → (∀ c, c ≠ 66 → c ≠ 86 → M c = L c) → (∀ k, k ≠ 39 → M 66 k = L 66 k) → K J M) (k1 : ∀ v, R = some [v] → ∀ J M, (∀ c, c ≠ 66 → J c = I c) → (∀ k, k ≠ 38 → J 66 k = I 66 k) → J 66 38 = 0 → (∀ c, c ≠ 66 → c ≠ 86 → M c = L c) → (∀ k, k ≠ 39 → M 66 k = L 66 k) → (M 66 39).toInt = v → -1000200000 ≤ v → v ≤ 1000200000 → K J M) (hs : ∀ s, R = some s → ∃ v, s = [v]) : w_239 (nI a) (nI b) I L K := by
  unfold w_239
  refine ⟨b - a + 1, l239 (I := am_u I 66 38 0) (L := L) (ord := ord) (bs := bs) (C := C) (e := e) (R := R) hm (by rw [uu_c (by decide)]; exact em) (by rw [uu_n (by decide)]; exact eo) (fun q => ⟨(hbs q).1, by rw [uu_n (by decide)]; exact (hbs q).2⟩) hb (fun k hk => RWd_cg (hW k hk) (fun c hc => uu_h hc) (fun c _ => rfl)) (fun J M u w hJ => ⟨fun hn j38 => ?_, fun s hs' l0 l1 l2 l3 => ?_⟩) (b - a) a [] _ L (by omega) (by omega) ⟨fun c _ => rfl, fun k _ => rfl, fun c _ => rfl⟩ uu_e (by rw [List.length_nil]; omega) trivial hR⟩
  · have f1 : ∀ c, c ≠ 66 → J c = I c := fun c hc => by rw [hJ.1 c hc, uu_h hc]
    have f2 : ∀ k, k ≠ 38 → J 66 k = I 66 k := fun k hk => by rw [hJ.2.1 k hk, uu_n hk]
    unfold wb_239_380
    by_cases c : u ≤ 0
    · rw [if_pos c]
      exact k0 hn J _ f1 f2 j38 (fun c c1 c2 => by rw [uu_h c1]; exact hJ.2.2 c c2) (fun k hk => by rw [uu_n hk, hJ.2.2 66 (by decide)])
    · rw [if_neg c]
      exact k0 hn J _ f1 f2 j38 (fun c c1 c2 => by rw [uu_h c1]; exact hJ.2.2 c c2) (fun k hk => by rw [uu_n hk, hJ.2.2 66 (by decide)])
  · have f1 : ∀ c, c ≠ 66 → J c = I c := fun c hc => by rw [hJ.1 c hc, uu_h hc]
    have f2 : ∀ k, k ≠ 38 → J 66 k = I 66 k := fun k hk => by rw [hJ.2.1 k hk, uu_n hk]
    obtain ⟨v, rfl⟩ := hs s hs'
    unfold wb_239_380
    rw [l0, if_neg (show ¬ nI [v].length ≤ 0 from (show ¬ nI 1 ≤ 0 by decide))]
    refine k1 v hs' J _ f1 f2 l2 (fun c c1 c2 => by rw [uu_h c1]; exact hJ.2.2 c c2) (fun k hk => by rw [uu_n hk, hJ.2.2 66 (by decide)]) ?_ l3.2.1 l3.2.2.1
    rw [uu_e]
    exact l3.1
