/-- all 42 -/
def op_all (P : Nat → (Nat → Nat × Nat) → (Nat → Nat → Option Nat) → am_I → am_J → Prop) : Prop := ∀ (N : Nat) (T : Nat → Nat × Nat) (r : Nat → Nat → Option Nat) (I : am_I) (L : am_J), P N T r I L → ∀ x1 x2 x3 x4 x5 : Int32, op_0 x1 x2 P N T r I L ∧ op_1 x1 x2 P N T r I L ∧ op_2 x1 x2 x3 P N T r I L ∧ op_3 x1 x2 P N T r I L ∧ op_4 x1 x2 x3 P N T r I L ∧ op_5 x1 x2 x3 P N T r I L ∧ op_6 x1 x2 P N T r I L ∧ op_7 x1 x2 P N T r I L ∧ op_8 x1 x2 x3 x4 x5 P N T r I L ∧ op_9 x1 P N T r I L ∧ op_10 P N T r I L ∧ op_11 P N T r I L ∧ op_12 P N T r I L ∧ op_13 P N T r I L ∧ op_14 P N T r I L ∧ op_15 P N T r I L ∧ op_16 x1 P N T r I L ∧ op_17 x1 x2 x3 P N T r I L ∧ op_18 x1 x2 P N T r I L ∧ op_19 x1 x2 x3 P N T r I L ∧ op_20 P N T r I L ∧ op_21 P N T r I L ∧ op_22 P N T r I L ∧ op_23 x1 x2 P N T r I L ∧ op_24 x1 P N T r I L ∧ op_25 x1 x2 P N T r I L ∧ op_26 P N T r I L ∧ op_27 x1 P N T r I L ∧ op_28 x1 P N T r I L ∧ op_29 x1 x2 P N T r I L ∧ op_30 x1 x2 P N T r I L ∧ op_31 P N T r I L ∧ op_32 x1 P N T r I L ∧ op_33 x1 P N T r I L ∧ op_34 x1 P N T r I L ∧ op_35 x1 x2 P N T r I L ∧ op_36 x1 x2 P N T r I L ∧ op_37 x1 x2 P N T r I L ∧ op_38 x1 P N T r I L ∧ op_39 x1 P N T r I L ∧ op_40 x1 P N T r I L ∧ op_41 P N T r I L
theorem am_o_nat {m : Nat} (h : m < 2147483648) : (Int32.ofNat m).toNatClampNeg = m := by
  have e : (Int32.ofNat m).toInt = m := Int32.toInt_ofNat_of_lt h
  rw [Int32.toNatClampNeg, e]
  rfl
theorem am_o_neg {m : Nat} (h : m < 2147483648) : ¬ Int32.ofNat m < 0 := by
  have e : (Int32.ofNat m).toInt = m := Int32.toInt_ofNat_of_lt h
  rw [Int32.lt_iff_toInt_lt, e]
  show ¬ (m : Int) < 0
  omega
theorem am_o_add {m k : Nat} : Int32.ofNat m + Int32.ofNat k = Int32.ofNat (m + k) := (Int32.ofNat_add m k).symm
theorem am_o_in {S : am_S} {m k : Nat} (hm : m + k < S.1) (hS : S.1 ≤ 3072) : ¬ ((Int32.ofNat m + Int32.ofNat k) < 0 ∨ S.1 ≤ Int32.toNatClampNeg (Int32.ofNat m + Int32.ofNat k)) := by
  rw [am_o_add, am_o_nat (by omega)]
  intro h
  rcases h with h | h
  · exact am_o_neg (by omega) h
  · omega
set_option maxRecDepth 100000 in
set_option maxHeartbeats 4000000 in
theorem law_loop {S : am_S} {d : Nat} {P : Nat → (Nat → Nat × Nat) → (Nat → Nat → Option Nat) → am_I → am_J → Prop} (hP : op_all P) (hS : S.1 ≤ 3072) {Q : am_Q} (hQ : ∀ h, Q (some (.int 1)) h) : ∀ (n j : Nat) (N : Nat) (T : Nat → Nat × Nat) (r : Nat → Nat → Option Nat) (I : am_I) (L : am_J), n + j = 513 → 6 * j ≤ S.1 → P N T r I L → am_E S 304 (d + 60) (99 + 12 * j) (25239 + 11333 * j) 18 [.retAddr 3, .ref 0, .ref 66, .int (Int32.ofNat (6 * j))] [] (N, am_ts T, I, L, am_rs r) Q
  | 0, j, _, _, _, _, _, hn, h6, _ => absurd hn (by omega)
  | n + 1, j, N, T, r, I, L, hn, h6, hp => by
    have ih := fun N T r I L => law_loop (d := d) hP hS hQ n (j + 1) N T r I L (by omega)
    have e6 : Int32.ofNat (6 * j) + 6 = Int32.ofNat (6 * (j + 1)) := by
      rw [show (6 : Int32) = Int32.ofNat 6 from rfl, am_o_add]
      congr 1
    generalize hv : Int32.ofNat (6 * j) = v3 at ih ⊢
    refine am_E.run [33] 200 (show (if (Int32.ofNat S.1 - 6) < v3 then (((1 : Int32) = 0 ∨ (1 : Int32) = 1) ∧ Q (some (.int 1)) (N, am_ts T, I, L, am_rs r)) else (if v3 < 0 ∨ S.1 ≤ Int32.toNatClampNeg v3 then False else (am_E S 304 (d + 60) (99 + 12 * j) (25239 + 11333 * j) 33 [.retAddr 3, .ref 0, .ref 66, .int v3] [.int ((S.2 (Int32.toNatClampNeg v3)) &&& 63)] (N, am_ts T, I, L, am_rs r) Q))) from ?_)
    by_cases hc : (Int32.ofNat S.1 - 6) < v3
    · rw [if_pos hc]
      exact ⟨Or.inr rfl, hQ _⟩
    rw [if_neg hc]
    have hlen : 6 * j + 6 ≤ S.1 := by
      rw [← hv, Int32.lt_iff_toInt_lt, Int32.toInt_ofNat_of_lt (show 6 * j < 2147483648 by omega)] at hc
      have e1 : (Int32.ofNat S.1 - 6).toInt = (S.1 : Int) - 6 := by
        rw [Int32.toInt_sub, Int32.toInt_ofNat_of_lt (show S.1 < 2147483648 by omega), show Int32.toInt 6 = 6 from rfl]
        exact Int.bmod_eq_of_le (by omega) (by omega)
      rw [e1] at hc
      omega
    have hb0 : ¬ (v3 < 0 ∨ S.1 ≤ Int32.toNatClampNeg v3) := by
      rw [← hv, am_o_nat (by omega)]
      intro h
      rcases h with h | h
      · exact am_o_neg (by omega) h
      · omega
    rw [if_neg hb0]
    have hb1 : ¬ ((v3 + 1) < 0 ∨ S.1 ≤ Int32.toNatClampNeg (v3 + 1)) := by
      rw [← hv]
      exact am_o_in (k := 1) (by omega) hS
    have hb2 : ¬ ((v3 + 2) < 0 ∨ S.1 ≤ Int32.toNatClampNeg (v3 + 2)) := by
      rw [← hv]
      exact am_o_in (k := 2) (by omega) hS
    have hb3 : ¬ ((v3 + 3) < 0 ∨ S.1 ≤ Int32.toNatClampNeg (v3 + 3)) := by
      rw [← hv]
      exact am_o_in (k := 3) (by omega) hS
    have hb4 : ¬ ((v3 + 4) < 0 ∨ S.1 ≤ Int32.toNatClampNeg (v3 + 4)) := by
      rw [← hv]
      exact am_o_in (k := 4) (by omega) hS
    have hb5 : ¬ ((v3 + 5) < 0 ∨ S.1 ≤ Int32.toNatClampNeg (v3 + 5)) := by
      rw [← hv]
      exact am_o_in (k := 5) (by omega) hS
    have hcs : 99 + 12 * j + 12 ≤ 10000 := by omega
    have hss : 25239 + 11333 * j + 11333 ≤ 6000000 := by omega
    have hn' : ∀ N T r I L, P N T r I L → am_E S 304 (d + 60) (99 + 12 * j + 12) (25239 + 11333 * j + 11333) 1332 [.retAddr 3, .ref 0, .ref 66, .int v3] [] (N, am_ts T, I, L, am_rs r) Q := by
      intro N T r I L hp
      refine am_E.run [18] 200 (show (am_E S 304 (d + 60) (99 + 12 * j + 12) (25239 + 11333 * j + 11333) 18 [.retAddr 3, .ref 0, .ref 66, .int (v3 + 6)] [] (N, am_ts T, I, L, am_rs r) Q) from ?_)
      have g := ih N T r I L (by omega) hp
      rw [← hv, e6]
      exact g
    have hop := hP N T r I L hp (S.2 (Int32.toNatClampNeg (v3 + 1))) (S.2 (Int32.toNatClampNeg (v3 + 2))) (S.2 (Int32.toNatClampNeg (v3 + 3))) (S.2 (Int32.toNatClampNeg (v3 + 4))) (S.2 (Int32.toNatClampNeg (v3 + 5)))
    generalize (S.2 (Int32.toNatClampNeg v3)) &&& 63 = x
    by_cases hc0 : x = 0
    · refine am_E.swap (k := 0) hc0 ?_
      refine am_E.go (show (am_E S 304 (d + 60) (99 + 12 * j) (25239 + 11333 * j) 216 [.retAddr 3, .ref 0, .ref 66, .int v3] [] (N, am_ts T, I, L, am_rs r) Q) from ?_)
      exact lc_0 hb1 hb2 hcs hss hop.1 hn'
    by_cases hc1 : x = 1
    · refine am_E.swap (k := 1) hc1 ?_
      refine am_E.go (show (am_E S 304 (d + 60) (99 + 12 * j) (25239 + 11333 * j) 249 [.retAddr 3, .ref 0, .ref 66, .int v3] [] (N, am_ts T, I, L, am_rs r) Q) from ?_)
      exact lc_1 hb1 hb2 hcs hss hop.2.1 hn'
    by_cases hc2 : x = 2
    · refine am_E.swap (k := 2) hc2 ?_
      refine am_E.go (show (am_E S 304 (d + 60) (99 + 12 * j) (25239 + 11333 * j) 282 [.retAddr 3, .ref 0, .ref 66, .int v3] [] (N, am_ts T, I, L, am_rs r) Q) from ?_)
      exact lc_2 hb1 hb2 hb3 hcs hss hop.2.2.1 hn'
    by_cases hc3 : x = 3
    · refine am_E.swap (k := 3) hc3 ?_
      refine am_E.go (show (am_E S 304 (d + 60) (99 + 12 * j) (25239 + 11333 * j) 325 [.retAddr 3, .ref 0, .ref 66, .int v3] [] (N, am_ts T, I, L, am_rs r) Q) from ?_)
      exact lc_3 hb1 hb2 hcs hss hop.2.2.2.1 hn'
    by_cases hc4 : x = 4
    · refine am_E.swap (k := 4) hc4 ?_
      refine am_E.go (show (am_E S 304 (d + 60) (99 + 12 * j) (25239 + 11333 * j) 358 [.retAddr 3, .ref 0, .ref 66, .int v3] [] (N, am_ts T, I, L, am_rs r) Q) from ?_)
      exact lc_4 hb1 hb2 hb3 hcs hss hop.2.2.2.2.1 hn'
    by_cases hc5 : x = 5
    · refine am_E.swap (k := 5) hc5 ?_
      refine am_E.go (show (am_E S 304 (d + 60) (99 + 12 * j) (25239 + 11333 * j) 401 [.retAddr 3, .ref 0, .ref 66, .int v3] [] (N, am_ts T, I, L, am_rs r) Q) from ?_)
      exact lc_5 hb1 hb2 hb3 hcs hss hop.2.2.2.2.2.1 hn'
    by_cases hc6 : x = 6
    · refine am_E.swap (k := 6) hc6 ?_
      refine am_E.go (show (am_E S 304 (d + 60) (99 + 12 * j) (25239 + 11333 * j) 444 [.retAddr 3, .ref 0, .ref 66, .int v3] [] (N, am_ts T, I, L, am_rs r) Q) from ?_)
      exact lc_6 hb1 hb2 hcs hss hop.2.2.2.2.2.2.1 hn'
    by_cases hc7 : x = 7
    · refine am_E.swap (k := 7) hc7 ?_
      refine am_E.go (show (am_E S 304 (d + 60) (99 + 12 * j) (25239 + 11333 * j) 477 [.retAddr 3, .ref 0, .ref 66, .int v3] [] (N, am_ts T, I, L, am_rs r) Q) from ?_)
      exact lc_7 hb1 hb2 hcs hss hop.2.2.2.2.2.2.2.1 hn'
    by_cases hc8 : x = 8
    · refine am_E.swap (k := 8) hc8 ?_
      refine am_E.go (show (am_E S 304 (d + 60) (99 + 12 * j) (25239 + 11333 * j) 510 [.retAddr 3, .ref 0, .ref 66, .int v3] [] (N, am_ts T, I, L, am_rs r) Q) from ?_)
      exact lc_8 hb1 hb2 hb3 hb4 hb5 hcs hss hop.2.2.2.2.2.2.2.2.1 hn'
    by_cases hc9 : x = 9
    · refine am_E.swap (k := 9) hc9 ?_
      refine am_E.go (show (am_E S 304 (d + 60) (99 + 12 * j) (25239 + 11333 * j) 573 [.retAddr 3, .ref 0, .ref 66, .int v3] [] (N, am_ts T, I, L, am_rs r) Q) from ?_)
      exact lc_9 hb1 hcs hss hop.2.2.2.2.2.2.2.2.2.1 hn'
    by_cases hc10 : x = 10
    · refine am_E.swap (k := 10) hc10 ?_
      refine am_E.go (show (am_E S 304 (d + 60) (99 + 12 * j) (25239 + 11333 * j) 596 [.retAddr 3, .ref 0, .ref 66, .int v3] [] (N, am_ts T, I, L, am_rs r) Q) from ?_)
      exact lc_10 hcs hss hop.2.2.2.2.2.2.2.2.2.2.1 hn'
    by_cases hc11 : x = 11
    · refine am_E.swap (k := 11) hc11 ?_
      refine am_E.go (show (am_E S 304 (d + 60) (99 + 12 * j) (25239 + 11333 * j) 609 [.retAddr 3, .ref 0, .ref 66, .int v3] [] (N, am_ts T, I, L, am_rs r) Q) from ?_)
      exact lc_11 hcs hss hop.2.2.2.2.2.2.2.2.2.2.2.1 hn'
    by_cases hc12 : x = 12
    · refine am_E.swap (k := 12) hc12 ?_
      refine am_E.go (show (am_E S 304 (d + 60) (99 + 12 * j) (25239 + 11333 * j) 622 [.retAddr 3, .ref 0, .ref 66, .int v3] [] (N, am_ts T, I, L, am_rs r) Q) from ?_)
      exact lc_12 hcs hss hop.2.2.2.2.2.2.2.2.2.2.2.2.1 hn'
    by_cases hc13 : x = 13
    · refine am_E.swap (k := 13) hc13 ?_
      refine am_E.go (show (am_E S 304 (d + 60) (99 + 12 * j) (25239 + 11333 * j) 635 [.retAddr 3, .ref 0, .ref 66, .int v3] [] (N, am_ts T, I, L, am_rs r) Q) from ?_)
      exact lc_13 hcs hss hop.2.2.2.2.2.2.2.2.2.2.2.2.2.1 hn'
    by_cases hc14 : x = 14
    · refine am_E.swap (k := 14) hc14 ?_
      refine am_E.go (show (am_E S 304 (d + 60) (99 + 12 * j) (25239 + 11333 * j) 648 [.retAddr 3, .ref 0, .ref 66, .int v3] [] (N, am_ts T, I, L, am_rs r) Q) from ?_)
      exact lc_14 hcs hss hop.2.2.2.2.2.2.2.2.2.2.2.2.2.2.1 hn'
    by_cases hc15 : x = 15
    · refine am_E.swap (k := 15) hc15 ?_
      refine am_E.go (show (am_E S 304 (d + 60) (99 + 12 * j) (25239 + 11333 * j) 661 [.retAddr 3, .ref 0, .ref 66, .int v3] [] (N, am_ts T, I, L, am_rs r) Q) from ?_)
      exact lc_15 hcs hss hop.2.2.2.2.2.2.2.2.2.2.2.2.2.2.2.1 hn'
    by_cases hc16 : x = 16
    · refine am_E.swap (k := 16) hc16 ?_
      refine am_E.go (show (am_E S 304 (d + 60) (99 + 12 * j) (25239 + 11333 * j) 674 [.retAddr 3, .ref 0, .ref 66, .int v3] [] (N, am_ts T, I, L, am_rs r) Q) from ?_)
      exact lc_16 hb1 hcs hss hop.2.2.2.2.2.2.2.2.2.2.2.2.2.2.2.2.1 hn'
    by_cases hc17 : x = 17
    · refine am_E.swap (k := 17) hc17 ?_
      refine am_E.go (show (am_E S 304 (d + 60) (99 + 12 * j) (25239 + 11333 * j) 697 [.retAddr 3, .ref 0, .ref 66, .int v3] [] (N, am_ts T, I, L, am_rs r) Q) from ?_)
      exact lc_17 hb1 hb2 hb3 hcs hss hop.2.2.2.2.2.2.2.2.2.2.2.2.2.2.2.2.2.1 hn'
    by_cases hc18 : x = 18
    · refine am_E.swap (k := 18) hc18 ?_
      refine am_E.go (show (am_E S 304 (d + 60) (99 + 12 * j) (25239 + 11333 * j) 740 [.retAddr 3, .ref 0, .ref 66, .int v3] [] (N, am_ts T, I, L, am_rs r) Q) from ?_)
      exact lc_18 hb1 hb2 hcs hss hop.2.2.2.2.2.2.2.2.2.2.2.2.2.2.2.2.2.2.1 hn'
    by_cases hc19 : x = 19
    · refine am_E.swap (k := 19) hc19 ?_
      refine am_E.go (show (am_E S 304 (d + 60) (99 + 12 * j) (25239 + 11333 * j) 773 [.retAddr 3, .ref 0, .ref 66, .int v3] [] (N, am_ts T, I, L, am_rs r) Q) from ?_)
      exact lc_19 hb1 hb2 hb3 hcs hss hop.2.2.2.2.2.2.2.2.2.2.2.2.2.2.2.2.2.2.2.1 hn'
    by_cases hc20 : x = 20
    · refine am_E.swap (k := 20) hc20 ?_
      refine am_E.go (show (am_E S 304 (d + 60) (99 + 12 * j) (25239 + 11333 * j) 816 [.retAddr 3, .ref 0, .ref 66, .int v3] [] (N, am_ts T, I, L, am_rs r) Q) from ?_)
      exact lc_20 hcs hss hop.2.2.2.2.2.2.2.2.2.2.2.2.2.2.2.2.2.2.2.2.1 hn'
    by_cases hc21 : x = 21
    · refine am_E.swap (k := 21) hc21 ?_
      refine am_E.go (show (am_E S 304 (d + 60) (99 + 12 * j) (25239 + 11333 * j) 829 [.retAddr 3, .ref 0, .ref 66, .int v3] [] (N, am_ts T, I, L, am_rs r) Q) from ?_)
      exact lc_21 hcs hss hop.2.2.2.2.2.2.2.2.2.2.2.2.2.2.2.2.2.2.2.2.2.1 hn'
    by_cases hc22 : x = 22
    · refine am_E.swap (k := 22) hc22 ?_
      refine am_E.go (show (am_E S 304 (d + 60) (99 + 12 * j) (25239 + 11333 * j) 842 [.retAddr 3, .ref 0, .ref 66, .int v3] [] (N, am_ts T, I, L, am_rs r) Q) from ?_)
      exact lc_22 hcs hss hop.2.2.2.2.2.2.2.2.2.2.2.2.2.2.2.2.2.2.2.2.2.2.1 hn'
    by_cases hc23 : x = 23
    · refine am_E.swap (k := 23) hc23 ?_
      refine am_E.go (show (am_E S 304 (d + 60) (99 + 12 * j) (25239 + 11333 * j) 855 [.retAddr 3, .ref 0, .ref 66, .int v3] [] (N, am_ts T, I, L, am_rs r) Q) from ?_)
      exact lc_23 hb1 hb2 hcs hss hop.2.2.2.2.2.2.2.2.2.2.2.2.2.2.2.2.2.2.2.2.2.2.2.1 hn'
    by_cases hc24 : x = 24
    · refine am_E.swap (k := 24) hc24 ?_
      refine am_E.go (show (am_E S 304 (d + 60) (99 + 12 * j) (25239 + 11333 * j) 888 [.retAddr 3, .ref 0, .ref 66, .int v3] [] (N, am_ts T, I, L, am_rs r) Q) from ?_)
      exact lc_24 hb1 hcs hss hop.2.2.2.2.2.2.2.2.2.2.2.2.2.2.2.2.2.2.2.2.2.2.2.2.1 hn'
    by_cases hc25 : x = 25
    · refine am_E.swap (k := 25) hc25 ?_
      refine am_E.go (show (am_E S 304 (d + 60) (99 + 12 * j) (25239 + 11333 * j) 911 [.retAddr 3, .ref 0, .ref 66, .int v3] [] (N, am_ts T, I, L, am_rs r) Q) from ?_)
      exact lc_25 hb1 hb2 hcs hss hop.2.2.2.2.2.2.2.2.2.2.2.2.2.2.2.2.2.2.2.2.2.2.2.2.2.1 hn'
    by_cases hc26 : x = 26
    · refine am_E.swap (k := 26) hc26 ?_
      refine am_E.go (show (am_E S 304 (d + 60) (99 + 12 * j) (25239 + 11333 * j) 944 [.retAddr 3, .ref 0, .ref 66, .int v3] [] (N, am_ts T, I, L, am_rs r) Q) from ?_)
      exact lc_26 hcs hss hop.2.2.2.2.2.2.2.2.2.2.2.2.2.2.2.2.2.2.2.2.2.2.2.2.2.2.1 hn'
    by_cases hc27 : x = 27
    · refine am_E.swap (k := 27) hc27 ?_
      refine am_E.go (show (am_E S 304 (d + 60) (99 + 12 * j) (25239 + 11333 * j) 957 [.retAddr 3, .ref 0, .ref 66, .int v3] [] (N, am_ts T, I, L, am_rs r) Q) from ?_)
      exact lc_27 hb1 hcs hss hop.2.2.2.2.2.2.2.2.2.2.2.2.2.2.2.2.2.2.2.2.2.2.2.2.2.2.2.1 hn'
    by_cases hc28 : x = 28
    · refine am_E.swap (k := 28) hc28 ?_
      refine am_E.go (show (am_E S 304 (d + 60) (99 + 12 * j) (25239 + 11333 * j) 980 [.retAddr 3, .ref 0, .ref 66, .int v3] [] (N, am_ts T, I, L, am_rs r) Q) from ?_)
      exact lc_28 hb1 hcs hss hop.2.2.2.2.2.2.2.2.2.2.2.2.2.2.2.2.2.2.2.2.2.2.2.2.2.2.2.2.1 hn'
    by_cases hc29 : x = 29
    · refine am_E.swap (k := 29) hc29 ?_
      refine am_E.go (show (am_E S 304 (d + 60) (99 + 12 * j) (25239 + 11333 * j) 1003 [.retAddr 3, .ref 0, .ref 66, .int v3] [] (N, am_ts T, I, L, am_rs r) Q) from ?_)
      exact lc_29 hb1 hb2 hcs hss hop.2.2.2.2.2.2.2.2.2.2.2.2.2.2.2.2.2.2.2.2.2.2.2.2.2.2.2.2.2.1 hn'
    by_cases hc30 : x = 30
    · refine am_E.swap (k := 30) hc30 ?_
      refine am_E.go (show (am_E S 304 (d + 60) (99 + 12 * j) (25239 + 11333 * j) 1036 [.retAddr 3, .ref 0, .ref 66, .int v3] [] (N, am_ts T, I, L, am_rs r) Q) from ?_)
      exact lc_30 hb1 hb2 hcs hss hop.2.2.2.2.2.2.2.2.2.2.2.2.2.2.2.2.2.2.2.2.2.2.2.2.2.2.2.2.2.2.1 hn'
    by_cases hc31 : x = 31
    · refine am_E.swap (k := 31) hc31 ?_
      refine am_E.go (show (am_E S 304 (d + 60) (99 + 12 * j) (25239 + 11333 * j) 1069 [.retAddr 3, .ref 0, .ref 66, .int v3] [] (N, am_ts T, I, L, am_rs r) Q) from ?_)
      exact lc_31 hcs hss hop.2.2.2.2.2.2.2.2.2.2.2.2.2.2.2.2.2.2.2.2.2.2.2.2.2.2.2.2.2.2.2.1 hn'
    by_cases hc32 : x = 32
    · refine am_E.swap (k := 32) hc32 ?_
      refine am_E.go (show (am_E S 304 (d + 60) (99 + 12 * j) (25239 + 11333 * j) 1082 [.retAddr 3, .ref 0, .ref 66, .int v3] [] (N, am_ts T, I, L, am_rs r) Q) from ?_)
      exact lc_32 hb1 hcs hss hop.2.2.2.2.2.2.2.2.2.2.2.2.2.2.2.2.2.2.2.2.2.2.2.2.2.2.2.2.2.2.2.2.1 hn'
    by_cases hc33 : x = 33
    · refine am_E.swap (k := 33) hc33 ?_
      refine am_E.go (show (am_E S 304 (d + 60) (99 + 12 * j) (25239 + 11333 * j) 1105 [.retAddr 3, .ref 0, .ref 66, .int v3] [] (N, am_ts T, I, L, am_rs r) Q) from ?_)
      exact lc_33 hb1 hcs hss hop.2.2.2.2.2.2.2.2.2.2.2.2.2.2.2.2.2.2.2.2.2.2.2.2.2.2.2.2.2.2.2.2.2.1 hn'
    by_cases hc34 : x = 34
    · refine am_E.swap (k := 34) hc34 ?_
      refine am_E.go (show (am_E S 304 (d + 60) (99 + 12 * j) (25239 + 11333 * j) 1128 [.retAddr 3, .ref 0, .ref 66, .int v3] [] (N, am_ts T, I, L, am_rs r) Q) from ?_)
      exact lc_34 hb1 hcs hss hop.2.2.2.2.2.2.2.2.2.2.2.2.2.2.2.2.2.2.2.2.2.2.2.2.2.2.2.2.2.2.2.2.2.2.1 hn'
    by_cases hc35 : x = 35
    · refine am_E.swap (k := 35) hc35 ?_
      refine am_E.go (show (am_E S 304 (d + 60) (99 + 12 * j) (25239 + 11333 * j) 1151 [.retAddr 3, .ref 0, .ref 66, .int v3] [] (N, am_ts T, I, L, am_rs r) Q) from ?_)
      exact lc_35 hb1 hb2 hcs hss hop.2.2.2.2.2.2.2.2.2.2.2.2.2.2.2.2.2.2.2.2.2.2.2.2.2.2.2.2.2.2.2.2.2.2.2.1 hn'
    by_cases hc36 : x = 36
    · refine am_E.swap (k := 36) hc36 ?_
      refine am_E.go (show (am_E S 304 (d + 60) (99 + 12 * j) (25239 + 11333 * j) 1184 [.retAddr 3, .ref 0, .ref 66, .int v3] [] (N, am_ts T, I, L, am_rs r) Q) from ?_)
      exact lc_36 hb1 hb2 hcs hss hop.2.2.2.2.2.2.2.2.2.2.2.2.2.2.2.2.2.2.2.2.2.2.2.2.2.2.2.2.2.2.2.2.2.2.2.2.1 hn'
    by_cases hc37 : x = 37
    · refine am_E.swap (k := 37) hc37 ?_
      refine am_E.go (show (am_E S 304 (d + 60) (99 + 12 * j) (25239 + 11333 * j) 1217 [.retAddr 3, .ref 0, .ref 66, .int v3] [] (N, am_ts T, I, L, am_rs r) Q) from ?_)
      exact lc_37 hb1 hb2 hcs hss hop.2.2.2.2.2.2.2.2.2.2.2.2.2.2.2.2.2.2.2.2.2.2.2.2.2.2.2.2.2.2.2.2.2.2.2.2.2.1 hn'
    by_cases hc38 : x = 38
    · refine am_E.swap (k := 38) hc38 ?_
      refine am_E.go (show (am_E S 304 (d + 60) (99 + 12 * j) (25239 + 11333 * j) 1250 [.retAddr 3, .ref 0, .ref 66, .int v3] [] (N, am_ts T, I, L, am_rs r) Q) from ?_)
      exact lc_38 hb1 hcs hss hop.2.2.2.2.2.2.2.2.2.2.2.2.2.2.2.2.2.2.2.2.2.2.2.2.2.2.2.2.2.2.2.2.2.2.2.2.2.2.1 hn'
    by_cases hc39 : x = 39
    · refine am_E.swap (k := 39) hc39 ?_
      refine am_E.go (show (am_E S 304 (d + 60) (99 + 12 * j) (25239 + 11333 * j) 1273 [.retAddr 3, .ref 0, .ref 66, .int v3] [] (N, am_ts T, I, L, am_rs r) Q) from ?_)
      exact lc_39 hb1 hcs hss hop.2.2.2.2.2.2.2.2.2.2.2.2.2.2.2.2.2.2.2.2.2.2.2.2.2.2.2.2.2.2.2.2.2.2.2.2.2.2.2.1 hn'
    by_cases hc40 : x = 40
    · refine am_E.swap (k := 40) hc40 ?_
      refine am_E.go (show (am_E S 304 (d + 60) (99 + 12 * j) (25239 + 11333 * j) 1296 [.retAddr 3, .ref 0, .ref 66, .int v3] [] (N, am_ts T, I, L, am_rs r) Q) from ?_)
      exact lc_40 hb1 hcs hss hop.2.2.2.2.2.2.2.2.2.2.2.2.2.2.2.2.2.2.2.2.2.2.2.2.2.2.2.2.2.2.2.2.2.2.2.2.2.2.2.2.1 hn'
    by_cases hc41 : x = 41
    · refine am_E.swap (k := 41) hc41 ?_
      refine am_E.go (show (am_E S 304 (d + 60) (99 + 12 * j) (25239 + 11333 * j) 1319 [.retAddr 3, .ref 0, .ref 66, .int v3] [] (N, am_ts T, I, L, am_rs r) Q) from ?_)
      exact lc_41 hcs hss hop.2.2.2.2.2.2.2.2.2.2.2.2.2.2.2.2.2.2.2.2.2.2.2.2.2.2.2.2.2.2.2.2.2.2.2.2.2.2.2.2.2 hn'
    have hd : x.toInt < 0 ∨ 41 < x.toInt := by
      have g0 := am_ine hc0
      change x.toInt ≠ 0 at g0
      have g1 := am_ine hc1
      change x.toInt ≠ 1 at g1
      have g2 := am_ine hc2
      change x.toInt ≠ 2 at g2
      have g3 := am_ine hc3
      change x.toInt ≠ 3 at g3
      have g4 := am_ine hc4
      change x.toInt ≠ 4 at g4
      have g5 := am_ine hc5
      change x.toInt ≠ 5 at g5
      have g6 := am_ine hc6
      change x.toInt ≠ 6 at g6
      have g7 := am_ine hc7
      change x.toInt ≠ 7 at g7
      have g8 := am_ine hc8
      change x.toInt ≠ 8 at g8
      have g9 := am_ine hc9
      change x.toInt ≠ 9 at g9
      have g10 := am_ine hc10
      change x.toInt ≠ 10 at g10
      have g11 := am_ine hc11
      change x.toInt ≠ 11 at g11
      have g12 := am_ine hc12
      change x.toInt ≠ 12 at g12
      have g13 := am_ine hc13
      change x.toInt ≠ 13 at g13
      have g14 := am_ine hc14
      change x.toInt ≠ 14 at g14
      have g15 := am_ine hc15
      change x.toInt ≠ 15 at g15
      have g16 := am_ine hc16
      change x.toInt ≠ 16 at g16
      have g17 := am_ine hc17
      change x.toInt ≠ 17 at g17
      have g18 := am_ine hc18
      change x.toInt ≠ 18 at g18
      have g19 := am_ine hc19
      change x.toInt ≠ 19 at g19
      have g20 := am_ine hc20
      change x.toInt ≠ 20 at g20
      have g21 := am_ine hc21
      change x.toInt ≠ 21 at g21
      have g22 := am_ine hc22
      change x.toInt ≠ 22 at g22
      have g23 := am_ine hc23
      change x.toInt ≠ 23 at g23
      have g24 := am_ine hc24
      change x.toInt ≠ 24 at g24
      have g25 := am_ine hc25
      change x.toInt ≠ 25 at g25
      have g26 := am_ine hc26
      change x.toInt ≠ 26 at g26
      have g27 := am_ine hc27
      change x.toInt ≠ 27 at g27
      have g28 := am_ine hc28
      change x.toInt ≠ 28 at g28
      have g29 := am_ine hc29
      change x.toInt ≠ 29 at g29
      have g30 := am_ine hc30
      change x.toInt ≠ 30 at g30
      have g31 := am_ine hc31
      change x.toInt ≠ 31 at g31
      have g32 := am_ine hc32
      change x.toInt ≠ 32 at g32
      have g33 := am_ine hc33
      change x.toInt ≠ 33 at g33
      have g34 := am_ine hc34
      change x.toInt ≠ 34 at g34
      have g35 := am_ine hc35
      change x.toInt ≠ 35 at g35
      have g36 := am_ine hc36
      change x.toInt ≠ 36 at g36
      have g37 := am_ine hc37
      change x.toInt ≠ 37 at g37
      have g38 := am_ine hc38
      change x.toInt ≠ 38 at g38
      have g39 := am_ine hc39
      change x.toInt ≠ 39 at g39
      have g40 := am_ine hc40
      change x.toInt ≠ 40 at g40
      have g41 := am_ine hc41
      change x.toInt ≠ 41 at g41
      omega
    refine am_E.go (show (if x.toInt < 0 ∨ 41 < x.toInt then (am_E S 304 (d + 60) (99 + 12 * j) (25239 + 11333 * j) 1332 [.retAddr 3, .ref 0, .ref 66, .int v3] [] (N, am_ts T, I, L, am_rs r) Q) else _) from ?_)
    refine am_ifp hd ?_
    exact (hn' _ _ _ _ _ hp).cs (by omega) (by omega)
