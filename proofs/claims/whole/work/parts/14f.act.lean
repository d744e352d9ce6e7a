/-! inspect, go -/
theorem w64 {n : Nat} (h : n < 2 ^ 31) : (nI n).toInt64.toInt = (n : Int) := by
  rw [Int32.toInt_toInt64, nI_toInt h]
theorem q241 {v : Int64} {x : Nat} (e : v.toInt = (x : Int)) (hx : x < 2 ^ 31) : f_241 v 0 99999 = nI (min x 99999) := by
  unfold f_241
  have l0 : ¬ lg_cmp v ((0 : Int32).toInt64) < 0 := by
    rw [lc_lt, Int64.lt_iff_toInt_lt, e]
    show ¬ (x : Int) < 0
    omega
  have l0' : (0 : Int32) ≤ lg_cmp v ((0 : Int32).toInt64) := by
    rw [Int32.lt_iff_toInt_lt] at l0
    rw [Int32.le_iff_toInt_le]
    omega
  rw [if_pos l0']
  by_cases c : x ≤ 99999
  · have l1 : lg_cmp v ((99999 : Int32).toInt64) ≤ 0 := by
      rw [Int32.le_iff_toInt_le]
      have n : ¬ 0 < lg_cmp v ((99999 : Int32).toInt64) := by
        rw [lc_gt, Int64.lt_iff_toInt_lt, e]
        show ¬ (99999 : Int) < x
        omega
      rw [Int32.lt_iff_toInt_lt] at n
      omega
    rw [if_pos l1, show min x 99999 = x by omega]
    apply Int32.toInt_inj.mp
    rw [Int64.toInt_toInt32, e, nI_toInt hx]
    exact Int.bmod_eq_of_le (by omega) (by omega)
  · have l1 : ¬ lg_cmp v ((99999 : Int32).toInt64) ≤ 0 := by
      rw [Int32.le_iff_toInt_le]
      have n : 0 < lg_cmp v ((99999 : Int32).toInt64) := by
        rw [lc_gt, Int64.lt_iff_toInt_lt, e]
        show (99999 : Int) < x
        omega
      rw [Int32.lt_iff_toInt_lt] at n
      omega
    rw [if_neg l1, show min x 99999 = 99999 by omega]
    rfl
/-- bread behind an inspection -/
def brd (e n m : Nat) : Nat := min (e + (if n = m then 2 * n else n)) 99999
theorem q101 {I : am_I} {e n m : Nat} (he : e ≤ 99999) (hn : n ≤ 8) (hm : m ≤ 8) (em : I 1 10 = nI m) : f_101 (nI e) (nI n) I = nI (brd e n m) := by
  unfold f_101 brd
  rw [em]
  have k : ∀ x, x < 2 ^ 31 → (if nI x < (99999 : Int32) then nI x else (99999 : Int32)) = nI (min x 99999) := by
    intro x hx
    by_cases c : x < 99999
    · rw [if_pos (show nI x < 99999 from (nb_lt (b := 99999) hx (by decide)).mpr c), show min x 99999 = x by omega]
    · rw [if_neg (show ¬ nI x < 99999 from fun q => c ((nb_lt (b := 99999) hx (by decide)).mp q)), show min x 99999 = 99999 by omega]
      rfl
  by_cases c : n = m
  · rw [if_pos (by rw [c]), if_pos c, show (2 : Int32) = nI 2 from rfl, nb_mul, nb_add]
    exact k _ (by omega)
  · rw [if_neg (fun q => c ((nb_inj (by omega) (by omega)).mp q)), if_neg c, nb_add]
    exact k _ (by omega)
theorem q262 {I : am_I} {e n m : Nat} {K : Int32 → am_I → Prop} (he : e ≤ 99999) (hm : m ≤ 8) (em : I 68 1 = nI m) (ee : I 68 9 = nI e) (hn : fb_ct (fun p => decide (¬ I 68 (10 + p) = 0)) m = n) (hK : K (nI n) (am_u I 68 9 (nI (brd e n m)))) : w_262 I K := by
  unfold w_262
  have hn8 : n ≤ 8 := by
    rw [← hn]
    exact Nat.le_trans (fb_ct_le _ _) hm
  refine q263 hm em ?_
  rw [hn]
  show (if nI n = I 68 1 then _ else _)
  rw [em, ee]
  unfold brd at hK
  by_cases c : n = m
  · rw [if_pos (by rw [c])]
    rw [if_pos c] at hK
    rw [q241 (x := e + 2 * n) ?_ (by omega)]
    · exact hK
    · rw [Int64.toInt_add, Int64.toInt_mul, w64 (by omega), w64 (by omega), show Int64.toInt 2 = 2 from rfl, Int.bmod_eq_of_le (n := 2 * (n : Int)) (by omega) (by omega), Int.bmod_eq_of_le (by omega) (by omega)]
      omega
  · rw [if_neg (fun q => c ((nb_inj (by omega) (by omega)).mp q))]
    rw [if_neg c] at hK
    rw [q241 (x := e + n) ?_ (by omega)]
    · exact hK
    · rw [Int64.toInt_add, w64 (by omega), w64 (by omega), Int.bmod_eq_of_le (by omega) (by omega)]
      omega
theorem q100 {T : Nat → Nat × Nat} {r : Nat → Nat → Option Nat} {I : am_I} {u e m n : Nat} {K : Int32 → am_I → Prop} (hu : u ≤ 16) (eu : I 29 0 = nI u) (hm : m ≤ 8) (em : I 1 10 = nI m) (he : e ≤ 99999) (ee : I 1 18 = nI e) (hn : fb_ct (fun p => decide (¬ I 6 p = 0)) m = n) (h1 : m = 0 → K (-3) I) (h2 : 1 ≤ m → ∀ J t s, t ≤ 15 → t + s = u → s ≤ 1 → (s = 0 ∨ u = 16) → kep I J t s 2 0 (nI e) 0 0 → K (nI n) (am_u J 1 18 (nI (brd e n m)))) : w_100 T r I K := by
  unfold w_100
  rw [em]
  by_cases c : m = 0
  · rw [if_pos (by rw [c]; rfl)]
    exact h1 c
  · rw [if_neg (nI_ne0 (by omega) (by omega))]
    refine q86 (a := 6) hm em rfl (show 8 ≤ 8 from Nat.le_refl 8) ?_
    rw [hn, ee]
    have hn8 : n ≤ 8 := by
      rw [← hn]
      exact Nat.le_trans (fb_ct_le _ _) hm
    refine q97 hu eu (fun J t s g1 g2 g3 g4 kc => ?_)
    have j1 : J 1 = I 1 := kc.1 1 (by decide)
    rw [j1, ee, q101 he hn8 hm (by rw [j1]; exact em)]
    exact h2 (by omega) J t s g1 g2 g3 g4 kc
theorem q261 {I : am_I} {u e m n : Nat} {K : Int32 → am_I → Prop} (hu : u ≤ 16) (eu : I 66 8 = nI u) (hm : m ≤ 8) (em : I 68 1 = nI m) (he : e ≤ 99999) (ee : I 68 9 = nI e) (hn : fb_ct (fun p => decide (¬ I 68 (10 + p) = 0)) m = n) (h1 : m = 0 → K (-3) I) (h2 : 1 ≤ m → ∀ J t s, t ≤ 15 → t + s = u → s ≤ 1 → (s = 0 ∨ u = 16) → rmb I J t s 2 → K (nI n) (am_u J 68 9 (nI (brd e n m)))) : w_261 I K := by
  unfold w_261
  rw [em]
  by_cases c : m = 0
  · rw [if_pos (by rw [c]; rfl)]
    exact h1 c
  · rw [if_neg (nI_ne0 (by omega) (by omega))]
    refine q255 hu eu (fun J t s g1 g2 g3 g4 rm => ?_)
    have j68 : J 68 = I 68 := rm.1 68 (by decide) (by decide) (by decide)
    refine q262 (e := e) (n := n) he hm (by rw [j68]; exact em) (by rw [j68]; exact ee) (by rw [j68]; exact hn) ?_
    exact h2 (by omega) J t s g1 g2 g3 g4 rm
theorem o_20 {D : am_P} (hD : FrD D) {N : Nat} {T : Nat → Nat × Nat} {r : Nat → Nat → Option Nat} {I : am_I} {L : am_J} (h : Inv D N T r I L) : op_20 (Inv D) N T r I L := by
  unfold op_20 w_120
  obtain ⟨m, v, hm, hv, e1, e2, e3, hp⟩ := id h.1.2.1
  obtain ⟨a, b, c, d, e, ha, hb1, hb2, hc, hd, he, q1, q2, q3, q4, q5, s1, s2, s3, s4, s5⟩ := id h.1.2.2.2.2.1
  obtain ⟨u, m', hu, hm', w1, eu, eu2, old⟩ := id h.1.2.2.2.2.2.2.1
  have ie := ins_eq (c1 := I 1) hp
  generalize hn : fb_ct (fun p => decide (¬ I 6 p = 0)) m = n at ie
  refine q100 hu eu hm e1 he q5 hn (fun z => ?_) (fun z C t s g1 g2 g3 g4 kc => ?_)
  · refine so3 ?_
    show w_260 _ _
    unfold w_260
    refine q261 (u := u) (e := e) hu eu2 hm e2 he s5 ie.symm (fun _ => ?_) (fun z' => absurd z (by omega))
    exact tl3 ⟨rfl, inv_r3 hD h⟩
  · have hn8 : n ≤ 8 := by
      rw [← hn]
      exact Nat.le_trans (fb_ct_le _ _) hm
    refine so0 (nI_pos' (by omega)) ?_
    show w_260 _ _
    unfold w_260
    have c66 : C 66 = I 66 := kc.1 66 (by decide)
    have c68 : C 68 = I 68 := kc.1 68 (by decide)
    refine q261 (u := u) (e := e) (m := m) (n := n) hu (show C 66 8 = nI u by rw [c66]; exact eu2) hm (show C 68 1 = nI m by rw [c68]; exact e2) he (show C 68 9 = nI e by rw [c68]; exact s5) (show fb_ct (fun p => decide (¬ C 68 (10 + p) = 0)) m = n by rw [c68]; exact ie.symm) (fun z' => absurd z (by omega)) (fun _ M t' s' k1 k2 k3 k4 rm => ?_)
    refine tl0 (nI_pos' (by omega)) ⟨rfl, ?_⟩
    have M68 : M 68 = I 68 := by
      rw [rm.1 68 (by decide) (by decide) (by decide)]
      exact c68
    have G68 : ∀ i, i ≠ 9 → am_u M 68 9 (nI (brd e n m)) 68 i = I 68 i := fun i hi => by rw [uu_n hi, M68]
    have C1 : ∀ i, i ≠ 18 → am_u C 1 18 (nI (brd e n m)) 1 i = I 1 i := fun i hi => by rw [uu_n hi, kc.1 1 (by decide)]
    refine inv_act2 hD h eu e2 hm g1 g2 g3 g4 k1 k2 k3 k4 kc (fun c n1 n6 n7 n12 => uu_h n1) C1 rm (fun c hc => uu_h hc) (fun i hi => G68 i (by omega)) ?_ ?_ (Or.inr (Or.inr (Or.inl ⟨rfl, e, he, rfl⟩))) (fun i hi => ?_)
    · rw [uu_h (show (6 : Nat) ≠ 1 by decide), uu_h (show (7 : Nat) ≠ 1 by decide), kc.1 6 (by decide), kc.1 7 (by decide)]
      exact PRm_cg h.1.2.1 (C1 10 (by decide)) (C1 9 (by decide)) (G68 1 (by decide)) (fun i _ _ => G68 i (by omega))
    · rw [uu_h (show (12 : Nat) ≠ 1 by decide), kc.1 12 (by decide)]
      exact ⟨a, b, c, d, brd e n m, ha, hb1, hb2, hc, hd, (by unfold brd; omega), q1, q2, q3, q4, uu_e, (G68 5 (by decide)).trans s1, (G68 6 (by decide)).trans s2, (G68 7 (by decide)).trans s3, (G68 8 (by decide)).trans s4, uu_e⟩
    · unfold ust
      rw [if_neg (by decide), if_neg (by decide), if_pos (by decide)]
      by_cases i0 : i = 4
      · rw [if_pos i0, i0]
        exact s5
      · rw [if_neg i0]
        exact (G68 _ (by omega)).symm
