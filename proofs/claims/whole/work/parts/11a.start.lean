/-! THE START: both constructors run on plain numbers; written by program (start.py) -/
def ht_0 : Nat → Nat × Nat := am_h0.2.1
def hi_0 : Nat → Nat → Int32 := am_h0.2.2.1
def hl_0 : Nat → Nat → Int64 := am_h0.2.2.2.1
def hr_0 : Nat → Nat → Option Nat := am_h0.2.2.2.2
def ht_1 : Nat → Nat × Nat := (am_tn ht_0 0 12 0)
def hi_1 : Nat → Nat → Int32 := (am_z hi_0 0 0)
def hl_1 : Nat → Nat → Int64 := (am_z hl_0 0 0)
def hr_1 : Nat → Nat → Option Nat := (am_z hr_0 0 none)
def ht_2 : Nat → Nat × Nat := ht_1
def hi_2 : Nat → Nat → Int32 := hi_1
def hl_2 : Nat → Nat → Int64 := hl_1
def hr_2 : Nat → Nat → Option Nat := hr_1
def ht_3 : Nat → Nat × Nat := (am_tn ht_2 1 7 0)
def hi_3 : Nat → Nat → Int32 := (am_z hi_2 1 0)
def hl_3 : Nat → Nat → Int64 := (am_z hl_2 1 0)
def hr_3 : Nat → Nat → Option Nat := (am_z hr_2 1 none)
def ht_4 : Nat → Nat × Nat := ht_3
def hi_4 : Nat → Nat → Int32 := hi_3
def hl_4 : Nat → Nat → Int64 := hl_3
def hr_4 : Nat → Nat → Option Nat := hr_3
def ht_5 : Nat → Nat × Nat := (am_tn (am_tn (am_tn (am_tn (am_tn ht_4 2 20 12) 3 20 12) 4 20 8) 5 20 8) 6 20 8)
def hi_5 : Nat → Nat → Int32 := (am_z (am_z (am_z (am_z (am_z hi_4 2 0) 3 0) 4 0) 5 0) 6 0)
def hl_5 : Nat → Nat → Int64 := (am_z (am_z (am_z (am_z (am_z hl_4 2 0) 3 0) 4 0) 5 0) 6 0)
def hr_5 : Nat → Nat → Option Nat := (am_u (am_z (am_u (am_z (am_u (am_z (am_u (am_z (am_u (am_z hr_4 2 none) 1 0 (some 2)) 3 none) 1 1 (some 3)) 4 none) 1 4 (some 4)) 5 none) 1 5 (some 5)) 6 none) 1 6 (some 6))
def ht_6 : Nat → Nat × Nat := (am_tn (am_tn (am_tn (am_tn (am_tn ht_5 7 20 8) 8 20 8) 9 20 8) 10 20 8) 11 24 6)
def hi_6 : Nat → Nat → Int32 := (am_u (am_z (am_z (am_z (am_z (am_z hi_5 7 0) 8 0) 9 0) 10 0) 11 0) 1 16 (-1))
def hl_6 : Nat → Nat → Int64 := (am_z (am_z (am_z (am_z (am_z hl_5 7 0) 8 0) 9 0) 10 0) 11 0)
def hr_6 : Nat → Nat → Option Nat := (am_u (am_z (am_u (am_z (am_u (am_z (am_u (am_z (am_u (am_z hr_5 7 none) 1 7 (some 7)) 8 none) 1 8 (some 8)) 9 none) 1 11 (some 9)) 10 none) 1 12 (some 10)) 11 none) 1 14 (some 11))
def ht_7 : Nat → Nat × Nat := (am_tn ht_6 12 20 4)
def hi_7 : Nat → Nat → Int32 := (am_u (am_u (am_u (am_u (am_z hi_6 12 0) 12 0 0) 12 1 3) 12 2 3) 12 3 0)
def hl_7 : Nat → Nat → Int64 := (am_z hl_6 12 0)
def hr_7 : Nat → Nat → Option Nat := (am_u (am_z hr_6 12 none) 1 17 (some 12))
set_option maxRecDepth 100000 in
theorem ct_2 {S : am_S} {d : Nat} {Q : am_Q} (hq : Q none (13, ht_7, hi_7, hl_7, hr_7)) : am_E S 1 (d + 1) 0 0 0 [.ref 1] [] (2, ht_4, hi_4, hl_4, hr_4) Q := by
  refine am_E.run [4] 200 (show (am_E S 1 (d + 1) 0 0 4 [.ref 1] [] (2, ht_4, hi_4, hl_4, hr_4) Q) from ?_)
  refine am_E.run [12] 200 (show (am_E S 1 (d + 1) 1 12 12 [.ref 1] [] (3, (am_tn ht_4 2 20 12), (am_z hi_4 2 0), (am_z hl_4 2 0), (am_u (am_z hr_4 2 none) 1 0 (some 2))) Q) from ?_)
  refine am_E.run [20] 200 (show (am_E S 1 (d + 1) 2 24 20 [.ref 1] [] (4, (am_tn (am_tn ht_4 2 20 12) 3 20 12), (am_z (am_z hi_4 2 0) 3 0), (am_z (am_z hl_4 2 0) 3 0), (am_u (am_z (am_u (am_z hr_4 2 none) 1 0 (some 2)) 3 none) 1 1 (some 3))) Q) from ?_)
  refine am_E.run [28] 200 (show (am_E S 1 (d + 1) 3 32 28 [.ref 1] [] (5, (am_tn (am_tn (am_tn ht_4 2 20 12) 3 20 12) 4 20 8), (am_z (am_z (am_z hi_4 2 0) 3 0) 4 0), (am_z (am_z (am_z hl_4 2 0) 3 0) 4 0), (am_u (am_z (am_u (am_z (am_u (am_z hr_4 2 none) 1 0 (some 2)) 3 none) 1 1 (some 3)) 4 none) 1 4 (some 4))) Q) from ?_)
  refine am_E.run [36] 200 (show (am_E S 1 (d + 1) 4 40 36 [.ref 1] [] (6, (am_tn (am_tn (am_tn (am_tn ht_4 2 20 12) 3 20 12) 4 20 8) 5 20 8), (am_z (am_z (am_z (am_z hi_4 2 0) 3 0) 4 0) 5 0), (am_z (am_z (am_z (am_z hl_4 2 0) 3 0) 4 0) 5 0), (am_u (am_z (am_u (am_z (am_u (am_z (am_u (am_z hr_4 2 none) 1 0 (some 2)) 3 none) 1 1 (some 3)) 4 none) 1 4 (some 4)) 5 none) 1 5 (some 5))) Q) from ?_)
  refine am_E.run [44] 200 (show (am_E S 1 (d + 1) 5 48 44 [.ref 1] [] (7, ht_5, hi_5, hl_5, hr_5) Q) from ?_)
  refine am_E.run [52] 200 (show (am_E S 1 (d + 1) 6 56 52 [.ref 1] [] (8, (am_tn ht_5 7 20 8), (am_z hi_5 7 0), (am_z hl_5 7 0), (am_u (am_z hr_5 7 none) 1 7 (some 7))) Q) from ?_)
  refine am_E.run [60] 200 (show (am_E S 1 (d + 1) 7 64 60 [.ref 1] [] (9, (am_tn (am_tn ht_5 7 20 8) 8 20 8), (am_z (am_z hi_5 7 0) 8 0), (am_z (am_z hl_5 7 0) 8 0), (am_u (am_z (am_u (am_z hr_5 7 none) 1 7 (some 7)) 8 none) 1 8 (some 8))) Q) from ?_)
  refine am_E.run [68] 200 (show (am_E S 1 (d + 1) 8 72 68 [.ref 1] [] (10, (am_tn (am_tn (am_tn ht_5 7 20 8) 8 20 8) 9 20 8), (am_z (am_z (am_z hi_5 7 0) 8 0) 9 0), (am_z (am_z (am_z hl_5 7 0) 8 0) 9 0), (am_u (am_z (am_u (am_z (am_u (am_z hr_5 7 none) 1 7 (some 7)) 8 none) 1 8 (some 8)) 9 none) 1 11 (some 9))) Q) from ?_)
  refine am_E.run [76] 200 (show (am_E S 1 (d + 1) 9 80 76 [.ref 1] [] (11, (am_tn (am_tn (am_tn (am_tn ht_5 7 20 8) 8 20 8) 9 20 8) 10 20 8), (am_z (am_z (am_z (am_z hi_5 7 0) 8 0) 9 0) 10 0), (am_z (am_z (am_z (am_z hl_5 7 0) 8 0) 9 0) 10 0), (am_u (am_z (am_u (am_z (am_u (am_z (am_u (am_z hr_5 7 none) 1 7 (some 7)) 8 none) 1 8 (some 8)) 9 none) 1 11 (some 9)) 10 none) 1 12 (some 10))) Q) from ?_)
  refine am_E.run [85] 200 (show (am_E S 1 (d + 1) 10 86 85 [.ref 1] [] (12, (am_tn (am_tn (am_tn (am_tn (am_tn ht_5 7 20 8) 8 20 8) 9 20 8) 10 20 8) 11 24 6), (am_z (am_z (am_z (am_z (am_z hi_5 7 0) 8 0) 9 0) 10 0) 11 0), (am_z (am_z (am_z (am_z (am_z hl_5 7 0) 8 0) 9 0) 10 0) 11 0), (am_u (am_z (am_u (am_z (am_u (am_z (am_u (am_z (am_u (am_z hr_5 7 none) 1 7 (some 7)) 8 none) 1 8 (some 8)) 9 none) 1 11 (some 9)) 10 none) 1 12 (some 10)) 11 none) 1 14 (some 11))) Q) from ?_)
  refine am_E.run [90] 200 (show (am_E S 1 (d + 1) 10 86 90 [.ref 1] [] (12, ht_6, hi_6, hl_6, hr_6) Q) from ?_)
  refine am_E.run [98] 200 (show (am_E S 1 (d + 1) 11 90 98 [.ref 1] [.ref 12, .ref 1] (13, (am_tn ht_6 12 20 4), (am_u (am_z hi_6 12 0) 12 0 0), (am_z hl_6 12 0), (am_z hr_6 12 none)) Q) from ?_)
  refine am_E.run [102] 200 (show (am_E S 1 (d + 1) 11 90 102 [.ref 1] [.ref 12, .ref 1] (13, (am_tn ht_6 12 20 4), (am_u (am_u (am_z hi_6 12 0) 12 0 0) 12 1 3), (am_z hl_6 12 0), (am_z hr_6 12 none)) Q) from ?_)
  refine am_E.run [106] 200 (show (am_E S 1 (d + 1) 11 90 106 [.ref 1] [.ref 12, .ref 1] (13, (am_tn ht_6 12 20 4), (am_u (am_u (am_u (am_z hi_6 12 0) 12 0 0) 12 1 3) 12 2 3), (am_z hl_6 12 0), (am_z hr_6 12 none)) Q) from ?_)
  refine am_E.run [110] 200 (show (am_E S 1 (d + 1) 11 90 110 [.ref 1] [.ref 12, .ref 1] (13, (am_tn ht_6 12 20 4), (am_u (am_u (am_u (am_u (am_z hi_6 12 0) 12 0 0) 12 1 3) 12 2 3) 12 3 0), (am_z hl_6 12 0), (am_z hr_6 12 none)) Q) from ?_)
  refine am_E.run [113] 200 (show (am_E S 1 (d + 1) 11 90 113 [.ref 1] [] (13, (am_tn ht_6 12 20 4), (am_u (am_u (am_u (am_u (am_z hi_6 12 0) 12 0 0) 12 1 3) 12 2 3) 12 3 0), (am_z hl_6 12 0), (am_u (am_z hr_6 12 none) 1 17 (some 12))) Q) from ?_)
  refine am_E.run [] 200 (show (True ∧ Q none (13, ht_7, hi_7, hl_7, hr_7)) from ?_)
  exact ⟨trivial, hq⟩
def ht_8 : Nat → Nat × Nat := (am_tn (am_tn ht_7 13 23 2) 14 8 0)
def hi_8 : Nat → Nat → Int32 := (am_z (am_z hi_7 13 0) 14 0)
def hl_8 : Nat → Nat → Int64 := (am_z (am_z hl_7 13 0) 14 0)
def hr_8 : Nat → Nat → Option Nat := (am_z (am_u (am_z (am_u hr_7 0 0 (some 1)) 13 none) 0 1 (some 13)) 14 none)
def ht_9 : Nat → Nat × Nat := ht_8
def hi_9 : Nat → Nat → Int32 := hi_8
def hl_9 : Nat → Nat → Int64 := hl_8
def hr_9 : Nat → Nat → Option Nat := hr_8
def ht_10 : Nat → Nat × Nat := (am_tn (am_tn ht_9 15 20 400) 16 11 0)
def hi_10 : Nat → Nat → Int32 := (am_z (am_u (am_z hi_9 15 0) 14 2 (-1)) 16 0)
def hl_10 : Nat → Nat → Int64 := (am_z (am_z hl_9 15 0) 16 0)
def hr_10 : Nat → Nat → Option Nat := (am_z (am_u (am_z hr_9 15 none) 14 0 (some 15)) 16 none)
def ht_11 : Nat → Nat × Nat := ht_10
def hi_11 : Nat → Nat → Int32 := hi_10
def hl_11 : Nat → Nat → Int64 := hl_10
def hr_11 : Nat → Nat → Option Nat := hr_10
def ht_12 : Nat → Nat × Nat := (am_tn (am_tn (am_tn (am_tn ht_11 17 20 400) 18 20 12) 19 20 12) 20 20 60)
def hi_12 : Nat → Nat → Int32 := (am_z (am_z (am_z (am_z hi_11 17 0) 18 0) 19 0) 20 0)
def hl_12 : Nat → Nat → Int64 := (am_z (am_z (am_z (am_z hl_11 17 0) 18 0) 19 0) 20 0)
def hr_12 : Nat → Nat → Option Nat := (am_u (am_z (am_u (am_z (am_u (am_z (am_u (am_z hr_11 17 none) 16 0 (some 17)) 18 none) 16 3 (some 18)) 19 none) 16 4 (some 19)) 20 none) 16 5 (some 20))
def ht_13 : Nat → Nat × Nat := ht_12
def hi_13 : Nat → Nat → Int32 := hi_12
def hl_13 : Nat → Nat → Int64 := hl_12
def hr_13 : Nat → Nat → Option Nat := hr_12
set_option maxRecDepth 100000 in
theorem ct_4 {S : am_S} {d : Nat} {Q : am_Q} (hq : Q none (21, ht_13, hi_13, hl_13, hr_13)) : am_E S 3 (d + 1) 0 0 0 [.ref 16, .int 400, .int 12, am_jk] [] (17, ht_11, hi_11, hl_11, hr_11) Q := by
  refine am_E.run [4] 200 (show (am_E S 3 (d + 1) 0 0 4 [.ref 16, .int 400, .int 12, am_jk] [] (17, ht_11, hi_11, hl_11, hr_11) Q) from ?_)
  refine am_E.run [10] 200 (show (am_E S 3 (d + 1) 0 0 10 [.ref 16, .int 400, .int 12, .int 12] [] (17, ht_11, hi_11, hl_11, hr_11) Q) from ?_)
  refine am_E.run [21] 200 (show (am_E S 3 (d + 1) 1 400 21 [.ref 16, .int 400, .int 12, .int 12] [] (18, (am_tn ht_11 17 20 400), (am_z hi_11 17 0), (am_z hl_11 17 0), (am_u (am_z hr_11 17 none) 16 0 (some 17))) Q) from ?_)
  refine am_E.run [28] 200 (show (am_E S 3 (d + 1) 2 412 28 [.ref 16, .int 400, .int 12, .int 12] [] (19, (am_tn (am_tn ht_11 17 20 400) 18 20 12), (am_z (am_z hi_11 17 0) 18 0), (am_z (am_z hl_11 17 0) 18 0), (am_u (am_z (am_u (am_z hr_11 17 none) 16 0 (some 17)) 18 none) 16 3 (some 18))) Q) from ?_)
  refine am_E.run [35] 200 (show (am_E S 3 (d + 1) 3 424 35 [.ref 16, .int 400, .int 12, .int 12] [] (20, (am_tn (am_tn (am_tn ht_11 17 20 400) 18 20 12) 19 20 12), (am_z (am_z (am_z hi_11 17 0) 18 0) 19 0), (am_z (am_z (am_z hl_11 17 0) 18 0) 19 0), (am_u (am_z (am_u (am_z (am_u (am_z hr_11 17 none) 16 0 (some 17)) 18 none) 16 3 (some 18)) 19 none) 16 4 (some 19))) Q) from ?_)
  refine am_E.run [44] 200 (show (am_E S 3 (d + 1) 4 484 44 [.ref 16, .int 400, .int 12, .int 12] [] (21, ht_12, hi_12, hl_12, hr_12) Q) from ?_)
  refine am_E.run [] 200 (show (True ∧ Q none (21, ht_13, hi_13, hl_13, hr_13)) from ?_)
  exact ⟨trivial, hq⟩
def ht_14 : Nat → Nat × Nat := (am_tn (am_tn ht_13 21 20 401) 22 20 401)
def hi_14 : Nat → Nat → Int32 := (am_z (am_z hi_13 21 0) 22 0)
def hl_14 : Nat → Nat → Int64 := (am_z (am_z hl_13 21 0) 22 0)
def hr_14 : Nat → Nat → Option Nat := (am_u (am_z (am_u (am_z (am_u hr_13 14 3 (some 16)) 21 none) 14 5 (some 21)) 22 none) 14 6 (some 22))
def ht_15 : Nat → Nat × Nat := ht_14
def hi_15 : Nat → Nat → Int32 := hi_14
def hl_15 : Nat → Nat → Int64 := hl_14
def hr_15 : Nat → Nat → Option Nat := hr_14
set_option maxRecDepth 100000 in
theorem ct_3 {S : am_S} {d : Nat} {Q : am_Q} (hq : Q none (23, ht_15, hi_15, hl_15, hr_15)) : am_E S 2 (d + 2) 0 0 0 [.ref 14] [] (15, ht_9, hi_9, hl_9, hr_9) Q := by
  refine am_E.run [4] 200 (show (am_E S 2 (d + 2) 0 0 4 [.ref 14] [] (15, ht_9, hi_9, hl_9, hr_9) Q) from ?_)
  refine am_E.run [13] 200 (show (am_E S 2 (d + 2) 1 400 13 [.ref 14] [] (16, (am_tn ht_9 15 20 400), (am_z hi_9 15 0), (am_z hl_9 15 0), (am_u (am_z hr_9 15 none) 14 0 (some 15))) Q) from ?_)
  refine am_E.run [18] 200 (show (am_E S 2 (d + 2) 1 400 18 [.ref 14] [] (16, (am_tn ht_9 15 20 400), (am_u (am_z hi_9 15 0) 14 2 (-1)), (am_z hl_9 15 0), (am_u (am_z hr_9 15 none) 14 0 (some 15))) Q) from ?_)
  refine am_E.run [28] 200 (show (am_E S 2 (d + 2) 2 406 28 [.ref 14] [.int 12, .int 400, .ref 16, .ref 16, .ref 14] (17, ht_10, hi_10, hl_10, hr_10) Q) from ?_)
  refine am_E.go ⟨fun v h9 => v = none ∧ h9 = (21, ht_13, hi_13, hl_13, hr_13), ct_4 ⟨rfl, rfl⟩, ?_⟩
  intro v h9 hv
  obtain ⟨rfl, rfl⟩ := hv
  refine am_E.run [34] 200 (show (am_E S 2 (d + 2) 6 890 34 [.ref 14] [] (21, ht_13, hi_13, hl_13, (am_u hr_13 14 3 (some 16))) Q) from ?_)
  refine am_E.run [43] 200 (show (am_E S 2 (d + 2) 7 1291 43 [.ref 14] [] (22, (am_tn ht_13 21 20 401), (am_z hi_13 21 0), (am_z hl_13 21 0), (am_u (am_z (am_u hr_13 14 3 (some 16)) 21 none) 14 5 (some 21))) Q) from ?_)
  refine am_E.run [52] 200 (show (am_E S 2 (d + 2) 8 1692 52 [.ref 14] [] (23, ht_14, hi_14, hl_14, hr_14) Q) from ?_)
  refine am_E.run [] 200 (show (True ∧ Q none (23, ht_15, hi_15, hl_15, hr_15)) from ?_)
  exact ⟨trivial, hq⟩
def ht_16 : Nat → Nat × Nat := (am_tn ht_15 23 4 0)
def hi_16 : Nat → Nat → Int32 := (am_z hi_15 23 0)
def hl_16 : Nat → Nat → Int64 := (am_z hl_15 23 0)
def hr_16 : Nat → Nat → Option Nat := (am_z (am_u hr_15 0 2 (some 14)) 23 none)
def ht_17 : Nat → Nat × Nat := ht_16
def hi_17 : Nat → Nat → Int32 := hi_16
def hl_17 : Nat → Nat → Int64 := hl_16
def hr_17 : Nat → Nat → Option Nat := hr_16
def ht_18 : Nat → Nat × Nat := (am_tn ht_17 24 5 0)
def hi_18 : Nat → Nat → Int32 := (am_z hi_17 24 0)
def hl_18 : Nat → Nat → Int64 := (am_z hl_17 24 0)
def hr_18 : Nat → Nat → Option Nat := (am_z hr_17 24 none)
def ht_19 : Nat → Nat × Nat := ht_18
def hi_19 : Nat → Nat → Int32 := hi_18
def hl_19 : Nat → Nat → Int64 := hl_18
def hr_19 : Nat → Nat → Option Nat := hr_18
def ht_20 : Nat → Nat × Nat := (am_tn (am_tn ht_19 25 20 14) 26 20 32)
def hi_20 : Nat → Nat → Int32 := (am_z (am_z hi_19 25 0) 26 0)
def hl_20 : Nat → Nat → Int64 := (am_z (am_z hl_19 25 0) 26 0)
def hr_20 : Nat → Nat → Option Nat := (am_u (am_z (am_u (am_z hr_19 25 none) 24 0 (some 25)) 26 none) 24 2 (some 26))
set_option maxRecDepth 100000 in
theorem ct_6 {S : am_S} {d : Nat} {Q : am_Q} (hq : Q none (27, ht_20, hi_20, hl_20, hr_20)) : am_E S 5 (d + 1) 0 0 0 [.ref 24] [] (25, ht_19, hi_19, hl_19, hr_19) Q := by
  refine am_E.run [4] 200 (show (am_E S 5 (d + 1) 0 0 4 [.ref 24] [] (25, ht_19, hi_19, hl_19, hr_19) Q) from ?_)
  refine am_E.run [12] 200 (show (am_E S 5 (d + 1) 1 14 12 [.ref 24] [] (26, (am_tn ht_19 25 20 14), (am_z hi_19 25 0), (am_z hl_19 25 0), (am_u (am_z hr_19 25 none) 24 0 (some 25))) Q) from ?_)
  refine am_E.run [20] 200 (show (am_E S 5 (d + 1) 2 46 20 [.ref 24] [] (27, (am_tn (am_tn ht_19 25 20 14) 26 20 32), (am_z (am_z hi_19 25 0) 26 0), (am_z (am_z hl_19 25 0) 26 0), (am_u (am_z (am_u (am_z hr_19 25 none) 24 0 (some 25)) 26 none) 24 2 (some 26))) Q) from ?_)
  refine am_E.run [] 200 (show (True ∧ Q none (27, ht_20, hi_20, hl_20, hr_20)) from ?_)
  exact ⟨trivial, hq⟩
def ht_21 : Nat → Nat × Nat := (am_tn (am_tn ht_20 27 20 8) 28 20 8)
def hi_21 : Nat → Nat → Int32 := (am_z (am_z hi_20 27 0) 28 0)
def hl_21 : Nat → Nat → Int64 := (am_z (am_z hl_20 27 0) 28 0)
def hr_21 : Nat → Nat → Option Nat := (am_u (am_z (am_u (am_z (am_u hr_20 23 0 (some 24)) 27 none) 23 3 (some 27)) 28 none) 23 4 (some 28))
set_option maxRecDepth 100000 in
theorem ct_5 {S : am_S} {d : Nat} {Q : am_Q} (hq : Q none (29, ht_21, hi_21, hl_21, hr_21)) : am_E S 4 (d + 2) 0 0 0 [.ref 23] [] (24, ht_17, hi_17, hl_17, hr_17) Q := by
  refine am_E.run [4] 200 (show (am_E S 4 (d + 2) 0 0 4 [.ref 23] [] (24, ht_17, hi_17, hl_17, hr_17) Q) from ?_)
  refine am_E.run [9] 200 (show (am_E S 4 (d + 2) 1 4 9 [.ref 23] [.ref 24, .ref 24, .ref 23] (25, ht_18, hi_18, hl_18, hr_18) Q) from ?_)
  refine am_E.go ⟨fun v h9 => v = none ∧ h9 = (27, ht_20, hi_20, hl_20, hr_20), ct_6 ⟨rfl, rfl⟩, ?_⟩
  intro v h9 hv
  obtain ⟨rfl, rfl⟩ := hv
  refine am_E.run [15] 200 (show (am_E S 4 (d + 2) 3 50 15 [.ref 23] [] (27, ht_20, hi_20, hl_20, (am_u hr_20 23 0 (some 24))) Q) from ?_)
  refine am_E.run [23] 200 (show (am_E S 4 (d + 2) 4 58 23 [.ref 23] [] (28, (am_tn ht_20 27 20 8), (am_z hi_20 27 0), (am_z hl_20 27 0), (am_u (am_z (am_u hr_20 23 0 (some 24)) 27 none) 23 3 (some 27))) Q) from ?_)
  refine am_E.run [31] 200 (show (am_E S 4 (d + 2) 5 66 31 [.ref 23] [] (29, (am_tn (am_tn ht_20 27 20 8) 28 20 8), (am_z (am_z hi_20 27 0) 28 0), (am_z (am_z hl_20 27 0) 28 0), (am_u (am_z (am_u (am_z (am_u hr_20 23 0 (some 24)) 27 none) 23 3 (some 27)) 28 none) 23 4 (some 28))) Q) from ?_)
  refine am_E.run [] 200 (show (True ∧ Q none (29, ht_21, hi_21, hl_21, hr_21)) from ?_)
  exact ⟨trivial, hq⟩
def ht_22 : Nat → Nat × Nat := (am_tn ht_21 29 3 0)
def hi_22 : Nat → Nat → Int32 := (am_z hi_21 29 0)
def hl_22 : Nat → Nat → Int64 := (am_z hl_21 29 0)
def hr_22 : Nat → Nat → Option Nat := (am_z (am_u hr_21 0 3 (some 23)) 29 none)
def ht_23 : Nat → Nat × Nat := ht_22
def hi_23 : Nat → Nat → Int32 := hi_22
def hl_23 : Nat → Nat → Int64 := hl_22
def hr_23 : Nat → Nat → Option Nat := hr_22
def ht_24 : Nat → Nat × Nat := (am_tn (am_tn (am_tn (am_tn (am_tn ht_23 30 20 16) 31 20 16) 32 20 16) 33 20 16) 34 20 16)
def hi_24 : Nat → Nat → Int32 := (am_z (am_z (am_z (am_z (am_z hi_23 30 0) 31 0) 32 0) 33 0) 34 0)
def hl_24 : Nat → Nat → Int64 := (am_z (am_z (am_z (am_z (am_z hl_23 30 0) 31 0) 32 0) 33 0) 34 0)
def hr_24 : Nat → Nat → Option Nat := (am_u (am_z (am_u (am_z (am_u (am_z (am_u (am_z (am_u (am_z hr_23 30 none) 29 1 (some 30)) 31 none) 29 2 (some 31)) 32 none) 29 3 (some 32)) 33 none) 29 4 (some 33)) 34 none) 29 5 (some 34))
def ht_25 : Nat → Nat × Nat := ht_24
def hi_25 : Nat → Nat → Int32 := hi_24
def hl_25 : Nat → Nat → Int64 := hl_24
def hr_25 : Nat → Nat → Option Nat := hr_24
set_option maxRecDepth 100000 in
theorem ct_7 {S : am_S} {d : Nat} {Q : am_Q} (hq : Q none (35, ht_25, hi_25, hl_25, hr_25)) : am_E S 6 (d + 1) 0 0 0 [.ref 29] [] (30, ht_23, hi_23, hl_23, hr_23) Q := by
  refine am_E.run [4] 200 (show (am_E S 6 (d + 1) 0 0 4 [.ref 29] [] (30, ht_23, hi_23, hl_23, hr_23) Q) from ?_)
  refine am_E.run [12] 200 (show (am_E S 6 (d + 1) 1 16 12 [.ref 29] [] (31, (am_tn ht_23 30 20 16), (am_z hi_23 30 0), (am_z hl_23 30 0), (am_u (am_z hr_23 30 none) 29 1 (some 30))) Q) from ?_)
  refine am_E.run [20] 200 (show (am_E S 6 (d + 1) 2 32 20 [.ref 29] [] (32, (am_tn (am_tn ht_23 30 20 16) 31 20 16), (am_z (am_z hi_23 30 0) 31 0), (am_z (am_z hl_23 30 0) 31 0), (am_u (am_z (am_u (am_z hr_23 30 none) 29 1 (some 30)) 31 none) 29 2 (some 31))) Q) from ?_)
  refine am_E.run [28] 200 (show (am_E S 6 (d + 1) 3 48 28 [.ref 29] [] (33, (am_tn (am_tn (am_tn ht_23 30 20 16) 31 20 16) 32 20 16), (am_z (am_z (am_z hi_23 30 0) 31 0) 32 0), (am_z (am_z (am_z hl_23 30 0) 31 0) 32 0), (am_u (am_z (am_u (am_z (am_u (am_z hr_23 30 none) 29 1 (some 30)) 31 none) 29 2 (some 31)) 32 none) 29 3 (some 32))) Q) from ?_)
  refine am_E.run [36] 200 (show (am_E S 6 (d + 1) 4 64 36 [.ref 29] [] (34, (am_tn (am_tn (am_tn (am_tn ht_23 30 20 16) 31 20 16) 32 20 16) 33 20 16), (am_z (am_z (am_z (am_z hi_23 30 0) 31 0) 32 0) 33 0), (am_z (am_z (am_z (am_z hl_23 30 0) 31 0) 32 0) 33 0), (am_u (am_z (am_u (am_z (am_u (am_z (am_u (am_z hr_23 30 none) 29 1 (some 30)) 31 none) 29 2 (some 31)) 32 none) 29 3 (some 32)) 33 none) 29 4 (some 33))) Q) from ?_)
  refine am_E.run [44] 200 (show (am_E S 6 (d + 1) 5 80 44 [.ref 29] [] (35, ht_24, hi_24, hl_24, hr_24) Q) from ?_)
  refine am_E.run [] 200 (show (True ∧ Q none (35, ht_25, hi_25, hl_25, hr_25)) from ?_)
  exact ⟨trivial, hq⟩
def ht_26 : Nat → Nat × Nat := ht_25
def hi_26 : Nat → Nat → Int32 := hi_25
def hl_26 : Nat → Nat → Int64 := hl_25
def hr_26 : Nat → Nat → Option Nat := (am_u hr_25 0 4 (some 29))
def ht_27 : Nat → Nat × Nat := (am_tn ht_26 35 10 0)
def hi_27 : Nat → Nat → Int32 := (am_z hi_26 35 0)
def hl_27 : Nat → Nat → Int64 := (am_z hl_26 35 0)
def hr_27 : Nat → Nat → Option Nat := (am_z hr_26 35 none)
def ht_28 : Nat → Nat × Nat := ht_27
def hi_28 : Nat → Nat → Int32 := hi_27
def hl_28 : Nat → Nat → Int64 := hl_27
def hr_28 : Nat → Nat → Option Nat := hr_27
def ht_29 : Nat → Nat × Nat := (am_tn ht_28 36 7 0)
def hi_29 : Nat → Nat → Int32 := (am_z (am_u hi_28 35 1 (-1)) 36 0)
def hl_29 : Nat → Nat → Int64 := (am_z hl_28 36 0)
def hr_29 : Nat → Nat → Option Nat := (am_z hr_28 36 none)
def ht_30 : Nat → Nat × Nat := ht_29
def hi_30 : Nat → Nat → Int32 := hi_29
def hl_30 : Nat → Nat → Int64 := hl_29
def hr_30 : Nat → Nat → Option Nat := hr_29
def ht_31 : Nat → Nat × Nat := (am_tn (am_tn (am_tn (am_tn (am_tn ht_30 37 20 12) 38 20 12) 39 20 8) 40 20 8) 41 20 8)
def hi_31 : Nat → Nat → Int32 := (am_z (am_z (am_z (am_z (am_z hi_30 37 0) 38 0) 39 0) 40 0) 41 0)
def hl_31 : Nat → Nat → Int64 := (am_z (am_z (am_z (am_z (am_z hl_30 37 0) 38 0) 39 0) 40 0) 41 0)
def hr_31 : Nat → Nat → Option Nat := (am_u (am_z (am_u (am_z (am_u (am_z (am_u (am_z (am_u (am_z hr_30 37 none) 36 0 (some 37)) 38 none) 36 1 (some 38)) 39 none) 36 4 (some 39)) 40 none) 36 5 (some 40)) 41 none) 36 6 (some 41))
def ht_32 : Nat → Nat × Nat := (am_tn (am_tn (am_tn (am_tn (am_tn ht_31 42 20 8) 43 20 8) 44 20 8) 45 20 8) 46 24 6)
def hi_32 : Nat → Nat → Int32 := (am_u (am_z (am_z (am_z (am_z (am_z hi_31 42 0) 43 0) 44 0) 45 0) 46 0) 36 16 (-1))
def hl_32 : Nat → Nat → Int64 := (am_z (am_z (am_z (am_z (am_z hl_31 42 0) 43 0) 44 0) 45 0) 46 0)
def hr_32 : Nat → Nat → Option Nat := (am_u (am_z (am_u (am_z (am_u (am_z (am_u (am_z (am_u (am_z hr_31 42 none) 36 7 (some 42)) 43 none) 36 8 (some 43)) 44 none) 36 11 (some 44)) 45 none) 36 12 (some 45)) 46 none) 36 14 (some 46))
def ht_33 : Nat → Nat × Nat := (am_tn ht_32 47 20 4)
def hi_33 : Nat → Nat → Int32 := (am_u (am_u (am_u (am_u (am_z hi_32 47 0) 47 0 0) 47 1 3) 47 2 3) 47 3 0)
def hl_33 : Nat → Nat → Int64 := (am_z hl_32 47 0)
def hr_33 : Nat → Nat → Option Nat := (am_u (am_z hr_32 47 none) 36 17 (some 47))
set_option maxRecDepth 100000 in
theorem ct_9 {S : am_S} {d : Nat} {Q : am_Q} (hq : Q none (48, ht_33, hi_33, hl_33, hr_33)) : am_E S 1 (d + 1) 0 0 0 [.ref 36] [] (37, ht_30, hi_30, hl_30, hr_30) Q := by
  refine am_E.run [4] 200 (show (am_E S 1 (d + 1) 0 0 4 [.ref 36] [] (37, ht_30, hi_30, hl_30, hr_30) Q) from ?_)
  refine am_E.run [12] 200 (show (am_E S 1 (d + 1) 1 12 12 [.ref 36] [] (38, (am_tn ht_30 37 20 12), (am_z hi_30 37 0), (am_z hl_30 37 0), (am_u (am_z hr_30 37 none) 36 0 (some 37))) Q) from ?_)
  refine am_E.run [20] 200 (show (am_E S 1 (d + 1) 2 24 20 [.ref 36] [] (39, (am_tn (am_tn ht_30 37 20 12) 38 20 12), (am_z (am_z hi_30 37 0) 38 0), (am_z (am_z hl_30 37 0) 38 0), (am_u (am_z (am_u (am_z hr_30 37 none) 36 0 (some 37)) 38 none) 36 1 (some 38))) Q) from ?_)
  refine am_E.run [28] 200 (show (am_E S 1 (d + 1) 3 32 28 [.ref 36] [] (40, (am_tn (am_tn (am_tn ht_30 37 20 12) 38 20 12) 39 20 8), (am_z (am_z (am_z hi_30 37 0) 38 0) 39 0), (am_z (am_z (am_z hl_30 37 0) 38 0) 39 0), (am_u (am_z (am_u (am_z (am_u (am_z hr_30 37 none) 36 0 (some 37)) 38 none) 36 1 (some 38)) 39 none) 36 4 (some 39))) Q) from ?_)
  refine am_E.run [36] 200 (show (am_E S 1 (d + 1) 4 40 36 [.ref 36] [] (41, (am_tn (am_tn (am_tn (am_tn ht_30 37 20 12) 38 20 12) 39 20 8) 40 20 8), (am_z (am_z (am_z (am_z hi_30 37 0) 38 0) 39 0) 40 0), (am_z (am_z (am_z (am_z hl_30 37 0) 38 0) 39 0) 40 0), (am_u (am_z (am_u (am_z (am_u (am_z (am_u (am_z hr_30 37 none) 36 0 (some 37)) 38 none) 36 1 (some 38)) 39 none) 36 4 (some 39)) 40 none) 36 5 (some 40))) Q) from ?_)
  refine am_E.run [44] 200 (show (am_E S 1 (d + 1) 5 48 44 [.ref 36] [] (42, ht_31, hi_31, hl_31, hr_31) Q) from ?_)
  refine am_E.run [52] 200 (show (am_E S 1 (d + 1) 6 56 52 [.ref 36] [] (43, (am_tn ht_31 42 20 8), (am_z hi_31 42 0), (am_z hl_31 42 0), (am_u (am_z hr_31 42 none) 36 7 (some 42))) Q) from ?_)
  refine am_E.run [60] 200 (show (am_E S 1 (d + 1) 7 64 60 [.ref 36] [] (44, (am_tn (am_tn ht_31 42 20 8) 43 20 8), (am_z (am_z hi_31 42 0) 43 0), (am_z (am_z hl_31 42 0) 43 0), (am_u (am_z (am_u (am_z hr_31 42 none) 36 7 (some 42)) 43 none) 36 8 (some 43))) Q) from ?_)
  refine am_E.run [68] 200 (show (am_E S 1 (d + 1) 8 72 68 [.ref 36] [] (45, (am_tn (am_tn (am_tn ht_31 42 20 8) 43 20 8) 44 20 8), (am_z (am_z (am_z hi_31 42 0) 43 0) 44 0), (am_z (am_z (am_z hl_31 42 0) 43 0) 44 0), (am_u (am_z (am_u (am_z (am_u (am_z hr_31 42 none) 36 7 (some 42)) 43 none) 36 8 (some 43)) 44 none) 36 11 (some 44))) Q) from ?_)
  refine am_E.run [76] 200 (show (am_E S 1 (d + 1) 9 80 76 [.ref 36] [] (46, (am_tn (am_tn (am_tn (am_tn ht_31 42 20 8) 43 20 8) 44 20 8) 45 20 8), (am_z (am_z (am_z (am_z hi_31 42 0) 43 0) 44 0) 45 0), (am_z (am_z (am_z (am_z hl_31 42 0) 43 0) 44 0) 45 0), (am_u (am_z (am_u (am_z (am_u (am_z (am_u (am_z hr_31 42 none) 36 7 (some 42)) 43 none) 36 8 (some 43)) 44 none) 36 11 (some 44)) 45 none) 36 12 (some 45))) Q) from ?_)
  refine am_E.run [85] 200 (show (am_E S 1 (d + 1) 10 86 85 [.ref 36] [] (47, (am_tn (am_tn (am_tn (am_tn (am_tn ht_31 42 20 8) 43 20 8) 44 20 8) 45 20 8) 46 24 6), (am_z (am_z (am_z (am_z (am_z hi_31 42 0) 43 0) 44 0) 45 0) 46 0), (am_z (am_z (am_z (am_z (am_z hl_31 42 0) 43 0) 44 0) 45 0) 46 0), (am_u (am_z (am_u (am_z (am_u (am_z (am_u (am_z (am_u (am_z hr_31 42 none) 36 7 (some 42)) 43 none) 36 8 (some 43)) 44 none) 36 11 (some 44)) 45 none) 36 12 (some 45)) 46 none) 36 14 (some 46))) Q) from ?_)
  refine am_E.run [90] 200 (show (am_E S 1 (d + 1) 10 86 90 [.ref 36] [] (47, ht_32, hi_32, hl_32, hr_32) Q) from ?_)
  refine am_E.run [98] 200 (show (am_E S 1 (d + 1) 11 90 98 [.ref 36] [.ref 47, .ref 36] (48, (am_tn ht_32 47 20 4), (am_u (am_z hi_32 47 0) 47 0 0), (am_z hl_32 47 0), (am_z hr_32 47 none)) Q) from ?_)
  refine am_E.run [102] 200 (show (am_E S 1 (d + 1) 11 90 102 [.ref 36] [.ref 47, .ref 36] (48, (am_tn ht_32 47 20 4), (am_u (am_u (am_z hi_32 47 0) 47 0 0) 47 1 3), (am_z hl_32 47 0), (am_z hr_32 47 none)) Q) from ?_)
  refine am_E.run [106] 200 (show (am_E S 1 (d + 1) 11 90 106 [.ref 36] [.ref 47, .ref 36] (48, (am_tn ht_32 47 20 4), (am_u (am_u (am_u (am_z hi_32 47 0) 47 0 0) 47 1 3) 47 2 3), (am_z hl_32 47 0), (am_z hr_32 47 none)) Q) from ?_)
  refine am_E.run [110] 200 (show (am_E S 1 (d + 1) 11 90 110 [.ref 36] [.ref 47, .ref 36] (48, (am_tn ht_32 47 20 4), (am_u (am_u (am_u (am_u (am_z hi_32 47 0) 47 0 0) 47 1 3) 47 2 3) 47 3 0), (am_z hl_32 47 0), (am_z hr_32 47 none)) Q) from ?_)
  refine am_E.run [113] 200 (show (am_E S 1 (d + 1) 11 90 113 [.ref 36] [] (48, (am_tn ht_32 47 20 4), (am_u (am_u (am_u (am_u (am_z hi_32 47 0) 47 0 0) 47 1 3) 47 2 3) 47 3 0), (am_z hl_32 47 0), (am_u (am_z hr_32 47 none) 36 17 (some 47))) Q) from ?_)
  refine am_E.run [] 200 (show (True ∧ Q none (48, ht_33, hi_33, hl_33, hr_33)) from ?_)
  exact ⟨trivial, hq⟩
def ht_34 : Nat → Nat × Nat := (am_tn ht_33 48 3 0)
def hi_34 : Nat → Nat → Int32 := (am_z hi_33 48 0)
def hl_34 : Nat → Nat → Int64 := (am_z hl_33 48 0)
def hr_34 : Nat → Nat → Option Nat := (am_z (am_u hr_33 35 3 (some 36)) 48 none)
def ht_35 : Nat → Nat × Nat := ht_34
def hi_35 : Nat → Nat → Int32 := hi_34
def hl_35 : Nat → Nat → Int64 := hl_34
def hr_35 : Nat → Nat → Option Nat := hr_34
def ht_36 : Nat → Nat × Nat := (am_tn (am_tn (am_tn (am_tn (am_tn ht_35 49 20 16) 50 20 16) 51 20 16) 52 20 16) 53 20 16)
def hi_36 : Nat → Nat → Int32 := (am_z (am_z (am_z (am_z (am_z hi_35 49 0) 50 0) 51 0) 52 0) 53 0)
def hl_36 : Nat → Nat → Int64 := (am_z (am_z (am_z (am_z (am_z hl_35 49 0) 50 0) 51 0) 52 0) 53 0)
def hr_36 : Nat → Nat → Option Nat := (am_u (am_z (am_u (am_z (am_u (am_z (am_u (am_z (am_u (am_z hr_35 49 none) 48 1 (some 49)) 50 none) 48 2 (some 50)) 51 none) 48 3 (some 51)) 52 none) 48 4 (some 52)) 53 none) 48 5 (some 53))
def ht_37 : Nat → Nat × Nat := ht_36
def hi_37 : Nat → Nat → Int32 := hi_36
def hl_37 : Nat → Nat → Int64 := hl_36
def hr_37 : Nat → Nat → Option Nat := hr_36
set_option maxRecDepth 100000 in
theorem ct_10 {S : am_S} {d : Nat} {Q : am_Q} (hq : Q none (54, ht_37, hi_37, hl_37, hr_37)) : am_E S 6 (d + 1) 0 0 0 [.ref 48] [] (49, ht_35, hi_35, hl_35, hr_35) Q := by
  refine am_E.run [4] 200 (show (am_E S 6 (d + 1) 0 0 4 [.ref 48] [] (49, ht_35, hi_35, hl_35, hr_35) Q) from ?_)
  refine am_E.run [12] 200 (show (am_E S 6 (d + 1) 1 16 12 [.ref 48] [] (50, (am_tn ht_35 49 20 16), (am_z hi_35 49 0), (am_z hl_35 49 0), (am_u (am_z hr_35 49 none) 48 1 (some 49))) Q) from ?_)
  refine am_E.run [20] 200 (show (am_E S 6 (d + 1) 2 32 20 [.ref 48] [] (51, (am_tn (am_tn ht_35 49 20 16) 50 20 16), (am_z (am_z hi_35 49 0) 50 0), (am_z (am_z hl_35 49 0) 50 0), (am_u (am_z (am_u (am_z hr_35 49 none) 48 1 (some 49)) 50 none) 48 2 (some 50))) Q) from ?_)
  refine am_E.run [28] 200 (show (am_E S 6 (d + 1) 3 48 28 [.ref 48] [] (52, (am_tn (am_tn (am_tn ht_35 49 20 16) 50 20 16) 51 20 16), (am_z (am_z (am_z hi_35 49 0) 50 0) 51 0), (am_z (am_z (am_z hl_35 49 0) 50 0) 51 0), (am_u (am_z (am_u (am_z (am_u (am_z hr_35 49 none) 48 1 (some 49)) 50 none) 48 2 (some 50)) 51 none) 48 3 (some 51))) Q) from ?_)
  refine am_E.run [36] 200 (show (am_E S 6 (d + 1) 4 64 36 [.ref 48] [] (53, (am_tn (am_tn (am_tn (am_tn ht_35 49 20 16) 50 20 16) 51 20 16) 52 20 16), (am_z (am_z (am_z (am_z hi_35 49 0) 50 0) 51 0) 52 0), (am_z (am_z (am_z (am_z hl_35 49 0) 50 0) 51 0) 52 0), (am_u (am_z (am_u (am_z (am_u (am_z (am_u (am_z hr_35 49 none) 48 1 (some 49)) 50 none) 48 2 (some 50)) 51 none) 48 3 (some 51)) 52 none) 48 4 (some 52))) Q) from ?_)
  refine am_E.run [44] 200 (show (am_E S 6 (d + 1) 5 80 44 [.ref 48] [] (54, ht_36, hi_36, hl_36, hr_36) Q) from ?_)
  refine am_E.run [] 200 (show (True ∧ Q none (54, ht_37, hi_37, hl_37, hr_37)) from ?_)
  exact ⟨trivial, hq⟩
def ht_38 : Nat → Nat × Nat := (am_tn ht_37 54 20 3)
def hi_38 : Nat → Nat → Int32 := (am_z hi_37 54 0)
def hl_38 : Nat → Nat → Int64 := (am_z hl_37 54 0)
def hr_38 : Nat → Nat → Option Nat := (am_u (am_z (am_u hr_37 35 4 (some 48)) 54 none) 35 5 (some 54))
set_option maxRecDepth 100000 in
theorem ct_8 {S : am_S} {d : Nat} {Q : am_Q} (hq : Q none (55, ht_38, hi_38, hl_38, hr_38)) : am_E S 7 (d + 2) 0 0 0 [.ref 35] [] (36, ht_28, hi_28, hl_28, hr_28) Q := by
  refine am_E.run [4] 200 (show (am_E S 7 (d + 2) 0 0 4 [.ref 35] [] (36, ht_28, hi_28, hl_28, hr_28) Q) from ?_)
  refine am_E.run [9] 200 (show (am_E S 7 (d + 2) 0 0 9 [.ref 35] [] (36, ht_28, (am_u hi_28 35 1 (-1)), hl_28, hr_28) Q) from ?_)
  refine am_E.run [14] 200 (show (am_E S 7 (d + 2) 1 19 14 [.ref 35] [.ref 36, .ref 36, .ref 35] (37, ht_29, hi_29, hl_29, hr_29) Q) from ?_)
  refine am_E.go ⟨fun v h9 => v = none ∧ h9 = (48, ht_33, hi_33, hl_33, hr_33), ct_9 ⟨rfl, rfl⟩, ?_⟩
  intro v h9 hv
  obtain ⟨rfl, rfl⟩ := hv
  refine am_E.run [20] 200 (show (am_E S 7 (d + 2) 12 109 20 [.ref 35] [] (48, ht_33, hi_33, hl_33, (am_u hr_33 35 3 (some 36))) Q) from ?_)
  refine am_E.run [25] 200 (show (am_E S 7 (d + 2) 13 115 25 [.ref 35] [.ref 48, .ref 48, .ref 35] (49, ht_34, hi_34, hl_34, hr_34) Q) from ?_)
  refine am_E.go ⟨fun v h9 => v = none ∧ h9 = (54, ht_37, hi_37, hl_37, hr_37), ct_10 ⟨rfl, rfl⟩, ?_⟩
  intro v h9 hv
  obtain ⟨rfl, rfl⟩ := hv
  refine am_E.run [31] 200 (show (am_E S 7 (d + 2) 18 195 31 [.ref 35] [] (54, ht_37, hi_37, hl_37, (am_u hr_37 35 4 (some 48))) Q) from ?_)
  refine am_E.run [38] 200 (show (am_E S 7 (d + 2) 19 198 38 [.ref 35] [] (55, (am_tn ht_37 54 20 3), (am_z hi_37 54 0), (am_z hl_37 54 0), (am_u (am_z (am_u hr_37 35 4 (some 48)) 54 none) 35 5 (some 54))) Q) from ?_)
  refine am_E.run [] 200 (show (True ∧ Q none (55, ht_38, hi_38, hl_38, hr_38)) from ?_)
  exact ⟨trivial, hq⟩
def ht_39 : Nat → Nat × Nat := (am_tn ht_38 55 2 0)
def hi_39 : Nat → Nat → Int32 := (am_z hi_38 55 0)
def hl_39 : Nat → Nat → Int64 := (am_z hl_38 55 0)
def hr_39 : Nat → Nat → Option Nat := (am_z (am_u hr_38 0 5 (some 35)) 55 none)
def ht_40 : Nat → Nat × Nat := ht_39
def hi_40 : Nat → Nat → Int32 := hi_39
def hl_40 : Nat → Nat → Int64 := hl_39
def hr_40 : Nat → Nat → Option Nat := hr_39
def ht_41 : Nat → Nat × Nat := (am_tn (am_tn (am_tn ht_40 56 20 6) 57 20 10) 58 20 10)
def hi_41 : Nat → Nat → Int32 := (am_z (am_z (am_z hi_40 56 0) 57 0) 58 0)
def hl_41 : Nat → Nat → Int64 := (am_z (am_z (am_z hl_40 56 0) 57 0) 58 0)
def hr_41 : Nat → Nat → Option Nat := (am_u (am_z (am_u (am_z (am_u (am_z hr_40 56 none) 55 0 (some 56)) 57 none) 55 1 (some 57)) 58 none) 55 2 (some 58))
set_option maxRecDepth 100000 in
theorem ct_11 {S : am_S} {d : Nat} {Q : am_Q} (hq : Q none (59, ht_41, hi_41, hl_41, hr_41)) : am_E S 8 (d + 1) 0 0 0 [.ref 55] [] (56, ht_40, hi_40, hl_40, hr_40) Q := by
  refine am_E.run [4] 200 (show (am_E S 8 (d + 1) 0 0 4 [.ref 55] [] (56, ht_40, hi_40, hl_40, hr_40) Q) from ?_)
  refine am_E.run [12] 200 (show (am_E S 8 (d + 1) 1 6 12 [.ref 55] [] (57, (am_tn ht_40 56 20 6), (am_z hi_40 56 0), (am_z hl_40 56 0), (am_u (am_z hr_40 56 none) 55 0 (some 56))) Q) from ?_)
  refine am_E.run [20] 200 (show (am_E S 8 (d + 1) 2 16 20 [.ref 55] [] (58, (am_tn (am_tn ht_40 56 20 6) 57 20 10), (am_z (am_z hi_40 56 0) 57 0), (am_z (am_z hl_40 56 0) 57 0), (am_u (am_z (am_u (am_z hr_40 56 none) 55 0 (some 56)) 57 none) 55 1 (some 57))) Q) from ?_)
  refine am_E.run [28] 200 (show (am_E S 8 (d + 1) 3 26 28 [.ref 55] [] (59, (am_tn (am_tn (am_tn ht_40 56 20 6) 57 20 10) 58 20 10), (am_z (am_z (am_z hi_40 56 0) 57 0) 58 0), (am_z (am_z (am_z hl_40 56 0) 57 0) 58 0), (am_u (am_z (am_u (am_z (am_u (am_z hr_40 56 none) 55 0 (some 56)) 57 none) 55 1 (some 57)) 58 none) 55 2 (some 58))) Q) from ?_)
  refine am_E.run [] 200 (show (True ∧ Q none (59, ht_41, hi_41, hl_41, hr_41)) from ?_)
  exact ⟨trivial, hq⟩
def ht_42 : Nat → Nat × Nat := (am_tn ht_41 59 1 0)
def hi_42 : Nat → Nat → Int32 := (am_z hi_41 59 0)
def hl_42 : Nat → Nat → Int64 := (am_z hl_41 59 0)
def hr_42 : Nat → Nat → Option Nat := (am_z (am_u hr_41 0 6 (some 55)) 59 none)
def ht_43 : Nat → Nat × Nat := ht_42
def hi_43 : Nat → Nat → Int32 := hi_42
def hl_43 : Nat → Nat → Int64 := hl_42
def hr_43 : Nat → Nat → Option Nat := hr_42
def ht_44 : Nat → Nat × Nat := (am_tn (am_tn (am_tn ht_43 60 20 256) 61 20 2304) 62 20 10)
def hi_44 : Nat → Nat → Int32 := (am_z (am_z (am_z hi_43 60 0) 61 0) 62 0)
def hl_44 : Nat → Nat → Int64 := (am_z (am_z (am_z hl_43 60 0) 61 0) 62 0)
def hr_44 : Nat → Nat → Option Nat := (am_u (am_z (am_u (am_z (am_u (am_z hr_43 60 none) 59 0 (some 60)) 61 none) 59 4 (some 61)) 62 none) 59 5 (some 62))
set_option maxRecDepth 100000 in
theorem ct_12 {S : am_S} {d : Nat} {Q : am_Q} (hq : Q none (63, ht_44, hi_44, hl_44, hr_44)) : am_E S 9 (d + 1) 0 0 0 [.ref 59] [] (60, ht_43, hi_43, hl_43, hr_43) Q := by
  refine am_E.run [4] 200 (show (am_E S 9 (d + 1) 0 0 4 [.ref 59] [] (60, ht_43, hi_43, hl_43, hr_43) Q) from ?_)
  refine am_E.run [13] 200 (show (am_E S 9 (d + 1) 1 256 13 [.ref 59] [] (61, (am_tn ht_43 60 20 256), (am_z hi_43 60 0), (am_z hl_43 60 0), (am_u (am_z hr_43 60 none) 59 0 (some 60))) Q) from ?_)
  refine am_E.run [22] 200 (show (am_E S 9 (d + 1) 2 2560 22 [.ref 59] [] (62, (am_tn (am_tn ht_43 60 20 256) 61 20 2304), (am_z (am_z hi_43 60 0) 61 0), (am_z (am_z hl_43 60 0) 61 0), (am_u (am_z (am_u (am_z hr_43 60 none) 59 0 (some 60)) 61 none) 59 4 (some 61))) Q) from ?_)
  refine am_E.run [30] 200 (show (am_E S 9 (d + 1) 3 2570 30 [.ref 59] [] (63, (am_tn (am_tn (am_tn ht_43 60 20 256) 61 20 2304) 62 20 10), (am_z (am_z (am_z hi_43 60 0) 61 0) 62 0), (am_z (am_z (am_z hl_43 60 0) 61 0) 62 0), (am_u (am_z (am_u (am_z (am_u (am_z hr_43 60 none) 59 0 (some 60)) 61 none) 59 4 (some 61)) 62 none) 59 5 (some 62))) Q) from ?_)
  refine am_E.run [] 200 (show (True ∧ Q none (63, ht_44, hi_44, hl_44, hr_44)) from ?_)
  exact ⟨trivial, hq⟩
def ht_45 : Nat → Nat × Nat := (am_tn ht_44 63 6 0)
def hi_45 : Nat → Nat → Int32 := (am_z hi_44 63 0)
def hl_45 : Nat → Nat → Int64 := (am_z hl_44 63 0)
def hr_45 : Nat → Nat → Option Nat := (am_z (am_u hr_44 0 7 (some 59)) 63 none)
def ht_46 : Nat → Nat × Nat := ht_45
def hi_46 : Nat → Nat → Int32 := hi_45
def hl_46 : Nat → Nat → Int64 := hl_45
def hr_46 : Nat → Nat → Option Nat := hr_45
def ht_47 : Nat → Nat × Nat := (am_tn ht_46 64 20 8)
def hi_47 : Nat → Nat → Int32 := (am_z hi_46 64 0)
def hl_47 : Nat → Nat → Int64 := (am_z hl_46 64 0)
def hr_47 : Nat → Nat → Option Nat := (am_u (am_z hr_46 64 none) 63 2 (some 64))
set_option maxRecDepth 100000 in
theorem ct_13 {S : am_S} {d : Nat} {Q : am_Q} (hq : Q none (65, ht_47, hi_47, hl_47, hr_47)) : am_E S 10 (d + 1) 0 0 0 [.ref 63] [] (64, ht_46, hi_46, hl_46, hr_46) Q := by
  refine am_E.run [4] 200 (show (am_E S 10 (d + 1) 0 0 4 [.ref 63] [] (64, ht_46, hi_46, hl_46, hr_46) Q) from ?_)
  refine am_E.run [12] 200 (show (am_E S 10 (d + 1) 1 8 12 [.ref 63] [] (65, (am_tn ht_46 64 20 8), (am_z hi_46 64 0), (am_z hl_46 64 0), (am_u (am_z hr_46 64 none) 63 2 (some 64))) Q) from ?_)
  refine am_E.run [] 200 (show (True ∧ Q none (65, ht_47, hi_47, hl_47, hr_47)) from ?_)
  exact ⟨trivial, hq⟩
def ht_48 : Nat → Nat × Nat := (am_tn ht_47 65 20 5)
def hi_48 : Nat → Nat → Int32 := (am_z hi_47 65 0)
def hl_48 : Nat → Nat → Int64 := (am_z hl_47 65 0)
def hr_48 : Nat → Nat → Option Nat := (am_u (am_z (am_u hr_47 0 8 (some 63)) 65 none) 0 11 (some 65))
set_option maxRecDepth 100000 in
theorem ct_1 {S : am_S} {d : Nat} {Q : am_Q} (hq : Q none (66, ht_48, hi_48, hl_48, hr_48)) : am_E S 0 (d + 3) 0 0 0 [.ref 0] [] (1, ht_2, hi_2, hl_2, hr_2) Q := by
  refine am_E.run [4] 200 (show (am_E S 0 (d + 3) 0 0 4 [.ref 0] [] (1, ht_2, hi_2, hl_2, hr_2) Q) from ?_)
  refine am_E.run [9] 200 (show (am_E S 0 (d + 3) 1 19 9 [.ref 0] [.ref 1, .ref 1, .ref 0] (2, ht_3, hi_3, hl_3, hr_3) Q) from ?_)
  refine am_E.go ⟨fun v h9 => v = none ∧ h9 = (13, ht_7, hi_7, hl_7, hr_7), ct_2 ⟨rfl, rfl⟩, ?_⟩
  intro v h9 hv
  obtain ⟨rfl, rfl⟩ := hv
  refine am_E.run [15] 200 (show (am_E S 0 (d + 3) 12 109 15 [.ref 0] [] (13, ht_7, hi_7, hl_7, (am_u hr_7 0 0 (some 1))) Q) from ?_)
  refine am_E.run [23] 200 (show (am_E S 0 (d + 3) 13 111 23 [.ref 0] [] (14, (am_tn ht_7 13 23 2), (am_z hi_7 13 0), (am_z hl_7 13 0), (am_u (am_z (am_u hr_7 0 0 (some 1)) 13 none) 0 1 (some 13))) Q) from ?_)
  refine am_E.run [28] 200 (show (am_E S 0 (d + 3) 14 121 28 [.ref 0] [.ref 14, .ref 14, .ref 0] (15, ht_8, hi_8, hl_8, hr_8) Q) from ?_)
  refine am_E.go ⟨fun v h9 => v = none ∧ h9 = (23, ht_15, hi_15, hl_15, hr_15), ct_3 ⟨rfl, rfl⟩, ?_⟩
  intro v h9 hv
  obtain ⟨rfl, rfl⟩ := hv
  refine am_E.run [34] 200 (show (am_E S 0 (d + 3) 22 1813 34 [.ref 0] [] (23, ht_15, hi_15, hl_15, (am_u hr_15 0 2 (some 14))) Q) from ?_)
  refine am_E.run [39] 200 (show (am_E S 0 (d + 3) 23 1818 39 [.ref 0] [.ref 23, .ref 23, .ref 0] (24, ht_16, hi_16, hl_16, hr_16) Q) from ?_)
  refine am_E.go ⟨fun v h9 => v = none ∧ h9 = (29, ht_21, hi_21, hl_21, hr_21), ct_5 ⟨rfl, rfl⟩, ?_⟩
  intro v h9 hv
  obtain ⟨rfl, rfl⟩ := hv
  refine am_E.run [45] 200 (show (am_E S 0 (d + 3) 28 1884 45 [.ref 0] [] (29, ht_21, hi_21, hl_21, (am_u hr_21 0 3 (some 23))) Q) from ?_)
  refine am_E.run [50] 200 (show (am_E S 0 (d + 3) 29 1890 50 [.ref 0] [.ref 29, .ref 29, .ref 0] (30, ht_22, hi_22, hl_22, hr_22) Q) from ?_)
  refine am_E.go ⟨fun v h9 => v = none ∧ h9 = (35, ht_25, hi_25, hl_25, hr_25), ct_7 ⟨rfl, rfl⟩, ?_⟩
  intro v h9 hv
  obtain ⟨rfl, rfl⟩ := hv
  refine am_E.run [56] 200 (show (am_E S 0 (d + 3) 34 1970 56 [.ref 0] [] (35, ht_26, hi_26, hl_26, hr_26) Q) from ?_)
  refine am_E.run [61] 200 (show (am_E S 0 (d + 3) 35 1976 61 [.ref 0] [.ref 35, .ref 35, .ref 0] (36, ht_27, hi_27, hl_27, hr_27) Q) from ?_)
  refine am_E.go ⟨fun v h9 => v = none ∧ h9 = (55, ht_38, hi_38, hl_38, hr_38), ct_8 ⟨rfl, rfl⟩, ?_⟩
  intro v h9 hv
  obtain ⟨rfl, rfl⟩ := hv
  refine am_E.run [67] 200 (show (am_E S 0 (d + 3) 54 2174 67 [.ref 0] [] (55, ht_38, hi_38, hl_38, (am_u hr_38 0 5 (some 35))) Q) from ?_)
  refine am_E.run [72] 200 (show (am_E S 0 (d + 3) 55 2177 72 [.ref 0] [.ref 55, .ref 55, .ref 0] (56, ht_39, hi_39, hl_39, hr_39) Q) from ?_)
  refine am_E.go ⟨fun v h9 => v = none ∧ h9 = (59, ht_41, hi_41, hl_41, hr_41), ct_11 ⟨rfl, rfl⟩, ?_⟩
  intro v h9 hv
  obtain ⟨rfl, rfl⟩ := hv
  refine am_E.run [78] 200 (show (am_E S 0 (d + 3) 58 2203 78 [.ref 0] [] (59, ht_41, hi_41, hl_41, (am_u hr_41 0 6 (some 55))) Q) from ?_)
  refine am_E.run [83] 200 (show (am_E S 0 (d + 3) 59 2209 83 [.ref 0] [.ref 59, .ref 59, .ref 0] (60, ht_42, hi_42, hl_42, hr_42) Q) from ?_)
  refine am_E.go ⟨fun v h9 => v = none ∧ h9 = (63, ht_44, hi_44, hl_44, hr_44), ct_12 ⟨rfl, rfl⟩, ?_⟩
  intro v h9 hv
  obtain ⟨rfl, rfl⟩ := hv
  refine am_E.run [89] 200 (show (am_E S 0 (d + 3) 62 4779 89 [.ref 0] [] (63, ht_44, hi_44, hl_44, (am_u hr_44 0 7 (some 59))) Q) from ?_)
  refine am_E.run [94] 200 (show (am_E S 0 (d + 3) 63 4783 94 [.ref 0] [.ref 63, .ref 63, .ref 0] (64, ht_45, hi_45, hl_45, hr_45) Q) from ?_)
  refine am_E.go ⟨fun v h9 => v = none ∧ h9 = (65, ht_47, hi_47, hl_47, hr_47), ct_13 ⟨rfl, rfl⟩, ?_⟩
  intro v h9 hv
  obtain ⟨rfl, rfl⟩ := hv
  refine am_E.run [100] 200 (show (am_E S 0 (d + 3) 64 4791 100 [.ref 0] [] (65, ht_47, hi_47, hl_47, (am_u hr_47 0 8 (some 63))) Q) from ?_)
  refine am_E.run [107] 200 (show (am_E S 0 (d + 3) 65 4796 107 [.ref 0] [] (66, (am_tn ht_47 65 20 5), (am_z hi_47 65 0), (am_z hl_47 65 0), (am_u (am_z (am_u hr_47 0 8 (some 63)) 65 none) 0 11 (some 65))) Q) from ?_)
  refine am_E.run [] 200 (show (True ∧ Q none (66, ht_48, hi_48, hl_48, hr_48)) from ?_)
  exact ⟨trivial, hq⟩
def ht_49 : Nat → Nat × Nat := (am_tn ht_48 66 13 0)
def hi_49 : Nat → Nat → Int32 := (am_z hi_48 66 0)
def hl_49 : Nat → Nat → Int64 := (am_z hl_48 66 0)
def hr_49 : Nat → Nat → Option Nat := (am_z hr_48 66 none)
def ht_50 : Nat → Nat × Nat := ht_49
def hi_50 : Nat → Nat → Int32 := hi_49
def hl_50 : Nat → Nat → Int64 := hl_49
def hr_50 : Nat → Nat → Option Nat := hr_49
def ht_51 : Nat → Nat × Nat := (am_tn (am_tn (am_tn (am_tn (am_tn ht_50 67 20 7) 68 20 5510) 69 20 11020) 70 22 2) 71 20 378)
def hi_51 : Nat → Nat → Int32 := (am_z (am_z (am_z (am_z (am_z hi_50 67 0) 68 0) 69 0) 70 0) 71 0)
def hl_51 : Nat → Nat → Int64 := (am_z (am_z (am_z (am_z (am_z hl_50 67 0) 68 0) 69 0) 70 0) 71 0)
def hr_51 : Nat → Nat → Option Nat := (am_u (am_z (am_u (am_z (am_u (am_z (am_u (am_z (am_u (am_z hr_50 67 none) 66 2 (some 67)) 68 none) 66 3 (some 68)) 69 none) 66 4 (some 69)) 70 none) 66 5 (some 70)) 71 none) 66 6 (some 71))
def ht_52 : Nat → Nat × Nat := (am_tn (am_tn (am_tn (am_tn (am_tn ht_51 72 20 16) 73 20 336) 74 20 16) 75 20 400) 76 20 96)
def hi_52 : Nat → Nat → Int32 := (am_z (am_u (am_z (am_z (am_z (am_z hi_51 72 0) 73 0) 74 0) 75 0) 66 18 (-1)) 76 0)
def hl_52 : Nat → Nat → Int64 := (am_z (am_z (am_z (am_z (am_z hl_51 72 0) 73 0) 74 0) 75 0) 76 0)
def hr_52 : Nat → Nat → Option Nat := (am_u (am_z (am_u (am_z (am_u (am_z (am_u (am_z (am_u (am_z hr_51 72 none) 66 7 (some 72)) 73 none) 66 9 (some 73)) 74 none) 66 10 (some 74)) 75 none) 66 12 (some 75)) 76 none) 66 22 (some 76))
def ht_53 : Nat → Nat × Nat := (am_tn (am_tn (am_tn (am_tn (am_tn ht_52 77 20 400) 78 20 400) 79 20 400) 80 20 400) 81 21 10)
def hi_53 : Nat → Nat → Int32 := (am_z (am_z (am_z (am_z (am_z hi_52 77 0) 78 0) 79 0) 80 0) 81 0)
def hl_53 : Nat → Nat → Int64 := (am_u (am_u (am_z (am_z (am_z (am_z (am_z hl_52 77 0) 78 0) 79 0) 80 0) 81 0) 81 0 542723566) 81 1 26379859)
def hr_53 : Nat → Nat → Option Nat := (am_z (am_u (am_z (am_u (am_z (am_u (am_z (am_u (am_z hr_52 77 none) 66 24 (some 77)) 78 none) 66 25 (some 78)) 79 none) 66 27 (some 79)) 80 none) 66 28 (some 80)) 81 none)
def ht_54 : Nat → Nat × Nat := ht_53
def hi_54 : Nat → Nat → Int32 := hi_53
def hl_54 : Nat → Nat → Int64 := (am_u (am_u (am_u (am_u (am_u (am_u hl_53 81 2 755156) 81 3 366387) 81 4 24170600) 81 5 72564293) 81 6 524555859) 81 7 278194)
def hr_54 : Nat → Nat → Option Nat := hr_53
def ht_55 : Nat → Nat × Nat := (am_tn ht_54 82 21 7)
def hi_55 : Nat → Nat → Int32 := (am_z hi_54 82 0)
def hl_55 : Nat → Nat → Int64 := (am_u (am_u (am_u (am_z (am_u (am_u hl_54 81 8 495763) 81 9 441828) 82 0) 82 0 278194) 82 1 2692132) 82 2 317301893)
def hr_55 : Nat → Nat → Option Nat := (am_z (am_u hr_54 66 31 (some 81)) 82 none)
def ht_56 : Nat → Nat × Nat := (am_tn ht_55 83 21 4)
def hi_56 : Nat → Nat → Int32 := (am_z hi_55 83 0)
def hl_56 : Nat → Nat → Int64 := (am_u (am_z (am_u (am_u (am_u (am_u hl_55 82 3 146885) 82 4 6804932) 82 5 17171557) 82 6 8892563) 83 0) 83 0 3657363)
def hr_56 : Nat → Nat → Option Nat := (am_z (am_u hr_55 66 32 (some 82)) 83 none)
def ht_57 : Nat → Nat × Nat := (am_tn (am_tn ht_56 84 21 13) 85 21 13)
def hi_57 : Nat → Nat → Int32 := (am_z (am_z hi_56 84 0) 85 0)
def hl_57 : Nat → Nat → Int64 := (am_z (am_z (am_u (am_u (am_u hl_56 83 1 7382483) 83 2 6600883) 83 3 67155) 84 0) 85 0)
def hr_57 : Nat → Nat → Option Nat := (am_u (am_z (am_u (am_z (am_u hr_56 66 33 (some 83)) 84 none) 66 35 (some 84)) 85 none) 66 36 (some 85))
def ht_58 : Nat → Nat × Nat := (am_tn (am_tn (am_tn (am_tn (am_tn (am_tn ht_57 86 21 400) 87 20 10) 88 20 96) 89 20 7) 90 20 6) 91 20 8)
def hi_58 : Nat → Nat → Int32 := (am_z (am_z (am_z (am_z (am_z (am_z hi_57 86 0) 87 0) 88 0) 89 0) 90 0) 91 0)
def hl_58 : Nat → Nat → Int64 := (am_z (am_z (am_z (am_z (am_z (am_z hl_57 86 0) 87 0) 88 0) 89 0) 90 0) 91 0)
def hr_58 : Nat → Nat → Option Nat := (am_u (am_z (am_u (am_z (am_u (am_z (am_u (am_z (am_u (am_z (am_u (am_z hr_57 86 none) 66 37 (some 86)) 87 none) 66 41 (some 87)) 88 none) 66 42 (some 88)) 89 none) 66 43 (some 89)) 90 none) 66 44 (some 90)) 91 none) 66 45 (some 91))
def ht_59 : Nat → Nat × Nat := (am_tn (am_tn (am_tn (am_tn (am_tn (am_tn ht_58 92 22 7) 93 20 6) 94 20 6) 95 20 9) 96 22 256) 97 20 120)
def hi_59 : Nat → Nat → Int32 := (am_z (am_z (am_z (am_z (am_z (am_z hi_58 92 0) 93 0) 94 0) 95 0) 96 0) 97 0)
def hl_59 : Nat → Nat → Int64 := (am_z (am_z (am_z (am_z (am_z (am_z hl_58 92 0) 93 0) 94 0) 95 0) 96 0) 97 0)
def hr_59 : Nat → Nat → Option Nat := (am_u (am_z (am_u (am_z (am_u (am_z (am_u (am_z (am_u (am_z (am_u (am_z hr_58 92 none) 66 48 (some 92)) 93 none) 66 49 (some 93)) 94 none) 66 50 (some 94)) 95 none) 66 51 (some 95)) 96 none) 66 52 (some 96)) 97 none) 66 53 (some 97))
def ht_60 : Nat → Nat × Nat := (am_tn ht_59 98 20 8)
def hi_60 : Nat → Nat → Int32 := (am_u (am_u (am_u (am_u (am_z (am_u hi_59 66 56 (-1)) 98 0) 66 61 (-1)) 68 4 (-1)) 68 6 3) 68 7 3)
def hl_60 : Nat → Nat → Int64 := (am_z hl_59 98 0)
def hr_60 : Nat → Nat → Option Nat := (am_u (am_z hr_59 98 none) 66 59 (some 98))
def ht_61 : Nat → Nat × Nat := ht_60
def hi_61 : Nat → Nat → Int32 := hi_60
def hl_61 : Nat → Nat → Int64 := hl_60
def hr_61 : Nat → Nat → Option Nat := hr_60
set_option maxRecDepth 100000 in
theorem ct_14 {S : am_S} {d : Nat} {Q : am_Q} (hq : Q none (99, ht_61, hi_61, hl_61, hr_61)) : am_E S 177 (d + 1) 0 0 0 [.ref 66] [] (67, ht_50, hi_50, hl_50, hr_50) Q := by
  refine am_E.run [4] 200 (show (am_E S 177 (d + 1) 0 0 4 [.ref 66] [] (67, ht_50, hi_50, hl_50, hr_50) Q) from ?_)
  refine am_E.run [12] 200 (show (am_E S 177 (d + 1) 1 7 12 [.ref 66] [] (68, (am_tn ht_50 67 20 7), (am_z hi_50 67 0), (am_z hl_50 67 0), (am_u (am_z hr_50 67 none) 66 2 (some 67))) Q) from ?_)
  refine am_E.run [21] 200 (show (am_E S 177 (d + 1) 2 5517 21 [.ref 66] [] (69, (am_tn (am_tn ht_50 67 20 7) 68 20 5510), (am_z (am_z hi_50 67 0) 68 0), (am_z (am_z hl_50 67 0) 68 0), (am_u (am_z (am_u (am_z hr_50 67 none) 66 2 (some 67)) 68 none) 66 3 (some 68))) Q) from ?_)
  refine am_E.run [30] 200 (show (am_E S 177 (d + 1) 3 16537 30 [.ref 66] [] (70, (am_tn (am_tn (am_tn ht_50 67 20 7) 68 20 5510) 69 20 11020), (am_z (am_z (am_z hi_50 67 0) 68 0) 69 0), (am_z (am_z (am_z hl_50 67 0) 68 0) 69 0), (am_u (am_z (am_u (am_z (am_u (am_z hr_50 67 none) 66 2 (some 67)) 68 none) 66 3 (some 68)) 69 none) 66 4 (some 69))) Q) from ?_)
  refine am_E.run [37] 200 (show (am_E S 177 (d + 1) 4 16539 37 [.ref 66] [] (71, (am_tn (am_tn (am_tn (am_tn ht_50 67 20 7) 68 20 5510) 69 20 11020) 70 22 2), (am_z (am_z (am_z (am_z hi_50 67 0) 68 0) 69 0) 70 0), (am_z (am_z (am_z (am_z hl_50 67 0) 68 0) 69 0) 70 0), (am_u (am_z (am_u (am_z (am_u (am_z (am_u (am_z hr_50 67 none) 66 2 (some 67)) 68 none) 66 3 (some 68)) 69 none) 66 4 (some 69)) 70 none) 66 5 (some 70))) Q) from ?_)
  refine am_E.run [46] 200 (show (am_E S 177 (d + 1) 5 16917 46 [.ref 66] [] (72, ht_51, hi_51, hl_51, hr_51) Q) from ?_)
  refine am_E.run [54] 200 (show (am_E S 177 (d + 1) 6 16933 54 [.ref 66] [] (73, (am_tn ht_51 72 20 16), (am_z hi_51 72 0), (am_z hl_51 72 0), (am_u (am_z hr_51 72 none) 66 7 (some 72))) Q) from ?_)
  refine am_E.run [63] 200 (show (am_E S 177 (d + 1) 7 17269 63 [.ref 66] [] (74, (am_tn (am_tn ht_51 72 20 16) 73 20 336), (am_z (am_z hi_51 72 0) 73 0), (am_z (am_z hl_51 72 0) 73 0), (am_u (am_z (am_u (am_z hr_51 72 none) 66 7 (some 72)) 73 none) 66 9 (some 73))) Q) from ?_)
  refine am_E.run [71] 200 (show (am_E S 177 (d + 1) 8 17285 71 [.ref 66] [] (75, (am_tn (am_tn (am_tn ht_51 72 20 16) 73 20 336) 74 20 16), (am_z (am_z (am_z hi_51 72 0) 73 0) 74 0), (am_z (am_z (am_z hl_51 72 0) 73 0) 74 0), (am_u (am_z (am_u (am_z (am_u (am_z hr_51 72 none) 66 7 (some 72)) 73 none) 66 9 (some 73)) 74 none) 66 10 (some 74))) Q) from ?_)
  refine am_E.run [80] 200 (show (am_E S 177 (d + 1) 9 17685 80 [.ref 66] [] (76, (am_tn (am_tn (am_tn (am_tn ht_51 72 20 16) 73 20 336) 74 20 16) 75 20 400), (am_z (am_z (am_z (am_z hi_51 72 0) 73 0) 74 0) 75 0), (am_z (am_z (am_z (am_z hl_51 72 0) 73 0) 74 0) 75 0), (am_u (am_z (am_u (am_z (am_u (am_z (am_u (am_z hr_51 72 none) 66 7 (some 72)) 73 none) 66 9 (some 73)) 74 none) 66 10 (some 74)) 75 none) 66 12 (some 75))) Q) from ?_)
  refine am_E.run [85] 200 (show (am_E S 177 (d + 1) 9 17685 85 [.ref 66] [] (76, (am_tn (am_tn (am_tn (am_tn ht_51 72 20 16) 73 20 336) 74 20 16) 75 20 400), (am_u (am_z (am_z (am_z (am_z hi_51 72 0) 73 0) 74 0) 75 0) 66 18 (-1)), (am_z (am_z (am_z (am_z hl_51 72 0) 73 0) 74 0) 75 0), (am_u (am_z (am_u (am_z (am_u (am_z (am_u (am_z hr_51 72 none) 66 7 (some 72)) 73 none) 66 9 (some 73)) 74 none) 66 10 (some 74)) 75 none) 66 12 (some 75))) Q) from ?_)
  refine am_E.run [93] 200 (show (am_E S 177 (d + 1) 10 17781 93 [.ref 66] [] (77, ht_52, hi_52, hl_52, hr_52) Q) from ?_)
  refine am_E.run [102] 200 (show (am_E S 177 (d + 1) 11 18181 102 [.ref 66] [] (78, (am_tn ht_52 77 20 400), (am_z hi_52 77 0), (am_z hl_52 77 0), (am_u (am_z hr_52 77 none) 66 24 (some 77))) Q) from ?_)
  refine am_E.run [111] 200 (show (am_E S 177 (d + 1) 12 18581 111 [.ref 66] [] (79, (am_tn (am_tn ht_52 77 20 400) 78 20 400), (am_z (am_z hi_52 77 0) 78 0), (am_z (am_z hl_52 77 0) 78 0), (am_u (am_z (am_u (am_z hr_52 77 none) 66 24 (some 77)) 78 none) 66 25 (some 78))) Q) from ?_)
  refine am_E.run [120] 200 (show (am_E S 177 (d + 1) 13 18981 120 [.ref 66] [] (80, (am_tn (am_tn (am_tn ht_52 77 20 400) 78 20 400) 79 20 400), (am_z (am_z (am_z hi_52 77 0) 78 0) 79 0), (am_z (am_z (am_z hl_52 77 0) 78 0) 79 0), (am_u (am_z (am_u (am_z (am_u (am_z hr_52 77 none) 66 24 (some 77)) 78 none) 66 25 (some 78)) 79 none) 66 27 (some 79))) Q) from ?_)
  refine am_E.run [129] 200 (show (am_E S 177 (d + 1) 14 19381 129 [.ref 66] [] (81, (am_tn (am_tn (am_tn (am_tn ht_52 77 20 400) 78 20 400) 79 20 400) 80 20 400), (am_z (am_z (am_z (am_z hi_52 77 0) 78 0) 79 0) 80 0), (am_z (am_z (am_z (am_z hl_52 77 0) 78 0) 79 0) 80 0), (am_u (am_z (am_u (am_z (am_u (am_z (am_u (am_z hr_52 77 none) 66 24 (some 77)) 78 none) 66 25 (some 78)) 79 none) 66 27 (some 79)) 80 none) 66 28 (some 80))) Q) from ?_)
  refine am_E.run [140] 200 (show (am_E S 177 (d + 1) 15 19391 140 [.ref 66] [.ref 81, .ref 66] (82, (am_tn (am_tn (am_tn (am_tn (am_tn ht_52 77 20 400) 78 20 400) 79 20 400) 80 20 400) 81 21 10), (am_z (am_z (am_z (am_z (am_z hi_52 77 0) 78 0) 79 0) 80 0) 81 0), (am_u (am_z (am_z (am_z (am_z (am_z hl_52 77 0) 78 0) 79 0) 80 0) 81 0) 81 0 542723566), (am_z (am_u (am_z (am_u (am_z (am_u (am_z (am_u (am_z hr_52 77 none) 66 24 (some 77)) 78 none) 66 25 (some 78)) 79 none) 66 27 (some 79)) 80 none) 66 28 (some 80)) 81 none)) Q) from ?_)
  refine am_E.run [146] 200 (show (am_E S 177 (d + 1) 15 19391 146 [.ref 66] [.ref 81, .ref 66] (82, ht_53, hi_53, hl_53, hr_53) Q) from ?_)
  refine am_E.run [152] 200 (show (am_E S 177 (d + 1) 15 19391 152 [.ref 66] [.ref 81, .ref 66] (82, ht_53, hi_53, (am_u hl_53 81 2 755156), hr_53) Q) from ?_)
  refine am_E.run [158] 200 (show (am_E S 177 (d + 1) 15 19391 158 [.ref 66] [.ref 81, .ref 66] (82, ht_53, hi_53, (am_u (am_u hl_53 81 2 755156) 81 3 366387), hr_53) Q) from ?_)
  refine am_E.run [164] 200 (show (am_E S 177 (d + 1) 15 19391 164 [.ref 66] [.ref 81, .ref 66] (82, ht_53, hi_53, (am_u (am_u (am_u hl_53 81 2 755156) 81 3 366387) 81 4 24170600), hr_53) Q) from ?_)
  refine am_E.run [170] 200 (show (am_E S 177 (d + 1) 15 19391 170 [.ref 66] [.ref 81, .ref 66] (82, ht_53, hi_53, (am_u (am_u (am_u (am_u hl_53 81 2 755156) 81 3 366387) 81 4 24170600) 81 5 72564293), hr_53) Q) from ?_)
  refine am_E.run [177] 200 (show (am_E S 177 (d + 1) 15 19391 177 [.ref 66] [.ref 81, .ref 66] (82, ht_53, hi_53, (am_u (am_u (am_u (am_u (am_u hl_53 81 2 755156) 81 3 366387) 81 4 24170600) 81 5 72564293) 81 6 524555859), hr_53) Q) from ?_)
  refine am_E.run [184] 200 (show (am_E S 177 (d + 1) 15 19391 184 [.ref 66] [.ref 81, .ref 66] (82, ht_54, hi_54, hl_54, hr_54) Q) from ?_)
  refine am_E.run [191] 200 (show (am_E S 177 (d + 1) 15 19391 191 [.ref 66] [.ref 81, .ref 66] (82, ht_54, hi_54, (am_u hl_54 81 8 495763), hr_54) Q) from ?_)
  refine am_E.run [198] 200 (show (am_E S 177 (d + 1) 15 19391 198 [.ref 66] [.ref 81, .ref 66] (82, ht_54, hi_54, (am_u (am_u hl_54 81 8 495763) 81 9 441828), hr_54) Q) from ?_)
  refine am_E.run [201] 200 (show (am_E S 177 (d + 1) 15 19391 201 [.ref 66] [] (82, ht_54, hi_54, (am_u (am_u hl_54 81 8 495763) 81 9 441828), (am_u hr_54 66 31 (some 81))) Q) from ?_)
  refine am_E.run [212] 200 (show (am_E S 177 (d + 1) 16 19398 212 [.ref 66] [.ref 82, .ref 66] (83, (am_tn ht_54 82 21 7), (am_z hi_54 82 0), (am_u (am_z (am_u (am_u hl_54 81 8 495763) 81 9 441828) 82 0) 82 0 278194), (am_z (am_u hr_54 66 31 (some 81)) 82 none)) Q) from ?_)
  refine am_E.run [218] 200 (show (am_E S 177 (d + 1) 16 19398 218 [.ref 66] [.ref 82, .ref 66] (83, (am_tn ht_54 82 21 7), (am_z hi_54 82 0), (am_u (am_u (am_z (am_u (am_u hl_54 81 8 495763) 81 9 441828) 82 0) 82 0 278194) 82 1 2692132), (am_z (am_u hr_54 66 31 (some 81)) 82 none)) Q) from ?_)
  refine am_E.run [224] 200 (show (am_E S 177 (d + 1) 16 19398 224 [.ref 66] [.ref 82, .ref 66] (83, ht_55, hi_55, hl_55, hr_55) Q) from ?_)
  refine am_E.run [230] 200 (show (am_E S 177 (d + 1) 16 19398 230 [.ref 66] [.ref 82, .ref 66] (83, ht_55, hi_55, (am_u hl_55 82 3 146885), hr_55) Q) from ?_)
  refine am_E.run [236] 200 (show (am_E S 177 (d + 1) 16 19398 236 [.ref 66] [.ref 82, .ref 66] (83, ht_55, hi_55, (am_u (am_u hl_55 82 3 146885) 82 4 6804932), hr_55) Q) from ?_)
  refine am_E.run [242] 200 (show (am_E S 177 (d + 1) 16 19398 242 [.ref 66] [.ref 82, .ref 66] (83, ht_55, hi_55, (am_u (am_u (am_u hl_55 82 3 146885) 82 4 6804932) 82 5 17171557), hr_55) Q) from ?_)
  refine am_E.run [249] 200 (show (am_E S 177 (d + 1) 16 19398 249 [.ref 66] [.ref 82, .ref 66] (83, ht_55, hi_55, (am_u (am_u (am_u (am_u hl_55 82 3 146885) 82 4 6804932) 82 5 17171557) 82 6 8892563), hr_55) Q) from ?_)
  refine am_E.run [252] 200 (show (am_E S 177 (d + 1) 16 19398 252 [.ref 66] [] (83, ht_55, hi_55, (am_u (am_u (am_u (am_u hl_55 82 3 146885) 82 4 6804932) 82 5 17171557) 82 6 8892563), (am_u hr_55 66 32 (some 82))) Q) from ?_)
  refine am_E.run [262] 200 (show (am_E S 177 (d + 1) 17 19402 262 [.ref 66] [.ref 83, .ref 66] (84, ht_56, hi_56, hl_56, hr_56) Q) from ?_)
  refine am_E.run [268] 200 (show (am_E S 177 (d + 1) 17 19402 268 [.ref 66] [.ref 83, .ref 66] (84, ht_56, hi_56, (am_u hl_56 83 1 7382483), hr_56) Q) from ?_)
  refine am_E.run [274] 200 (show (am_E S 177 (d + 1) 17 19402 274 [.ref 66] [.ref 83, .ref 66] (84, ht_56, hi_56, (am_u (am_u hl_56 83 1 7382483) 83 2 6600883), hr_56) Q) from ?_)
  refine am_E.run [280] 200 (show (am_E S 177 (d + 1) 17 19402 280 [.ref 66] [.ref 83, .ref 66] (84, ht_56, hi_56, (am_u (am_u (am_u hl_56 83 1 7382483) 83 2 6600883) 83 3 67155), hr_56) Q) from ?_)
  refine am_E.run [283] 200 (show (am_E S 177 (d + 1) 17 19402 283 [.ref 66] [] (84, ht_56, hi_56, (am_u (am_u (am_u hl_56 83 1 7382483) 83 2 6600883) 83 3 67155), (am_u hr_56 66 33 (some 83))) Q) from ?_)
  refine am_E.run [291] 200 (show (am_E S 177 (d + 1) 18 19415 291 [.ref 66] [] (85, (am_tn ht_56 84 21 13), (am_z hi_56 84 0), (am_z (am_u (am_u (am_u hl_56 83 1 7382483) 83 2 6600883) 83 3 67155) 84 0), (am_u (am_z (am_u hr_56 66 33 (some 83)) 84 none) 66 35 (some 84))) Q) from ?_)
  refine am_E.run [299] 200 (show (am_E S 177 (d + 1) 19 19428 299 [.ref 66] [] (86, ht_57, hi_57, hl_57, hr_57) Q) from ?_)
  refine am_E.run [308] 200 (show (am_E S 177 (d + 1) 20 19828 308 [.ref 66] [] (87, (am_tn ht_57 86 21 400), (am_z hi_57 86 0), (am_z hl_57 86 0), (am_u (am_z hr_57 86 none) 66 37 (some 86))) Q) from ?_)
  refine am_E.run [316] 200 (show (am_E S 177 (d + 1) 21 19838 316 [.ref 66] [] (88, (am_tn (am_tn ht_57 86 21 400) 87 20 10), (am_z (am_z hi_57 86 0) 87 0), (am_z (am_z hl_57 86 0) 87 0), (am_u (am_z (am_u (am_z hr_57 86 none) 66 37 (some 86)) 87 none) 66 41 (some 87))) Q) from ?_)
  refine am_E.run [324] 200 (show (am_E S 177 (d + 1) 22 19934 324 [.ref 66] [] (89, (am_tn (am_tn (am_tn ht_57 86 21 400) 87 20 10) 88 20 96), (am_z (am_z (am_z hi_57 86 0) 87 0) 88 0), (am_z (am_z (am_z hl_57 86 0) 87 0) 88 0), (am_u (am_z (am_u (am_z (am_u (am_z hr_57 86 none) 66 37 (some 86)) 87 none) 66 41 (some 87)) 88 none) 66 42 (some 88))) Q) from ?_)
  refine am_E.run [332] 200 (show (am_E S 177 (d + 1) 23 19941 332 [.ref 66] [] (90, (am_tn (am_tn (am_tn (am_tn ht_57 86 21 400) 87 20 10) 88 20 96) 89 20 7), (am_z (am_z (am_z (am_z hi_57 86 0) 87 0) 88 0) 89 0), (am_z (am_z (am_z (am_z hl_57 86 0) 87 0) 88 0) 89 0), (am_u (am_z (am_u (am_z (am_u (am_z (am_u (am_z hr_57 86 none) 66 37 (some 86)) 87 none) 66 41 (some 87)) 88 none) 66 42 (some 88)) 89 none) 66 43 (some 89))) Q) from ?_)
  refine am_E.run [340] 200 (show (am_E S 177 (d + 1) 24 19947 340 [.ref 66] [] (91, (am_tn (am_tn (am_tn (am_tn (am_tn ht_57 86 21 400) 87 20 10) 88 20 96) 89 20 7) 90 20 6), (am_z (am_z (am_z (am_z (am_z hi_57 86 0) 87 0) 88 0) 89 0) 90 0), (am_z (am_z (am_z (am_z (am_z hl_57 86 0) 87 0) 88 0) 89 0) 90 0), (am_u (am_z (am_u (am_z (am_u (am_z (am_u (am_z (am_u (am_z hr_57 86 none) 66 37 (some 86)) 87 none) 66 41 (some 87)) 88 none) 66 42 (some 88)) 89 none) 66 43 (some 89)) 90 none) 66 44 (some 90))) Q) from ?_)
  refine am_E.run [348] 200 (show (am_E S 177 (d + 1) 25 19955 348 [.ref 66] [] (92, ht_58, hi_58, hl_58, hr_58) Q) from ?_)
  refine am_E.run [356] 200 (show (am_E S 177 (d + 1) 26 19962 356 [.ref 66] [] (93, (am_tn ht_58 92 22 7), (am_z hi_58 92 0), (am_z hl_58 92 0), (am_u (am_z hr_58 92 none) 66 48 (some 92))) Q) from ?_)
  refine am_E.run [364] 200 (show (am_E S 177 (d + 1) 27 19968 364 [.ref 66] [] (94, (am_tn (am_tn ht_58 92 22 7) 93 20 6), (am_z (am_z hi_58 92 0) 93 0), (am_z (am_z hl_58 92 0) 93 0), (am_u (am_z (am_u (am_z hr_58 92 none) 66 48 (some 92)) 93 none) 66 49 (some 93))) Q) from ?_)
  refine am_E.run [372] 200 (show (am_E S 177 (d + 1) 28 19974 372 [.ref 66] [] (95, (am_tn (am_tn (am_tn ht_58 92 22 7) 93 20 6) 94 20 6), (am_z (am_z (am_z hi_58 92 0) 93 0) 94 0), (am_z (am_z (am_z hl_58 92 0) 93 0) 94 0), (am_u (am_z (am_u (am_z (am_u (am_z hr_58 92 none) 66 48 (some 92)) 93 none) 66 49 (some 93)) 94 none) 66 50 (some 94))) Q) from ?_)
  refine am_E.run [380] 200 (show (am_E S 177 (d + 1) 29 19983 380 [.ref 66] [] (96, (am_tn (am_tn (am_tn (am_tn ht_58 92 22 7) 93 20 6) 94 20 6) 95 20 9), (am_z (am_z (am_z (am_z hi_58 92 0) 93 0) 94 0) 95 0), (am_z (am_z (am_z (am_z hl_58 92 0) 93 0) 94 0) 95 0), (am_u (am_z (am_u (am_z (am_u (am_z (am_u (am_z hr_58 92 none) 66 48 (some 92)) 93 none) 66 49 (some 93)) 94 none) 66 50 (some 94)) 95 none) 66 51 (some 95))) Q) from ?_)
  refine am_E.run [389] 200 (show (am_E S 177 (d + 1) 30 20239 389 [.ref 66] [] (97, (am_tn (am_tn (am_tn (am_tn (am_tn ht_58 92 22 7) 93 20 6) 94 20 6) 95 20 9) 96 22 256), (am_z (am_z (am_z (am_z (am_z hi_58 92 0) 93 0) 94 0) 95 0) 96 0), (am_z (am_z (am_z (am_z (am_z hl_58 92 0) 93 0) 94 0) 95 0) 96 0), (am_u (am_z (am_u (am_z (am_u (am_z (am_u (am_z (am_u (am_z hr_58 92 none) 66 48 (some 92)) 93 none) 66 49 (some 93)) 94 none) 66 50 (some 94)) 95 none) 66 51 (some 95)) 96 none) 66 52 (some 96))) Q) from ?_)
  refine am_E.run [397] 200 (show (am_E S 177 (d + 1) 31 20359 397 [.ref 66] [] (98, ht_59, hi_59, hl_59, hr_59) Q) from ?_)
  refine am_E.run [402] 200 (show (am_E S 177 (d + 1) 31 20359 402 [.ref 66] [] (98, ht_59, (am_u hi_59 66 56 (-1)), hl_59, hr_59) Q) from ?_)
  refine am_E.run [410] 200 (show (am_E S 177 (d + 1) 32 20367 410 [.ref 66] [] (99, (am_tn ht_59 98 20 8), (am_z (am_u hi_59 66 56 (-1)) 98 0), (am_z hl_59 98 0), (am_u (am_z hr_59 98 none) 66 59 (some 98))) Q) from ?_)
  refine am_E.run [415] 200 (show (am_E S 177 (d + 1) 32 20367 415 [.ref 66] [] (99, (am_tn ht_59 98 20 8), (am_u (am_z (am_u hi_59 66 56 (-1)) 98 0) 66 61 (-1)), (am_z hl_59 98 0), (am_u (am_z hr_59 98 none) 66 59 (some 98))) Q) from ?_)
  refine am_E.run [422] 200 (show (am_E S 177 (d + 1) 32 20367 422 [.ref 66] [] (99, (am_tn ht_59 98 20 8), (am_u (am_u (am_z (am_u hi_59 66 56 (-1)) 98 0) 66 61 (-1)) 68 4 (-1)), (am_z hl_59 98 0), (am_u (am_z hr_59 98 none) 66 59 (some 98))) Q) from ?_)
  refine am_E.run [430] 200 (show (am_E S 177 (d + 1) 32 20367 430 [.ref 66] [] (99, (am_tn ht_59 98 20 8), (am_u (am_u (am_u (am_z (am_u hi_59 66 56 (-1)) 98 0) 66 61 (-1)) 68 4 (-1)) 68 6 3), (am_z hl_59 98 0), (am_u (am_z hr_59 98 none) 66 59 (some 98))) Q) from ?_)
  refine am_E.run [438] 200 (show (am_E S 177 (d + 1) 32 20367 438 [.ref 66] [] (99, ht_60, hi_60, hl_60, hr_60) Q) from ?_)
  refine am_E.run [] 200 (show (True ∧ Q none (99, ht_61, hi_61, hl_61, hr_61)) from ?_)
  exact ⟨trivial, hq⟩
def ht_62 : Nat → Nat × Nat := ht_61
def hi_62 : Nat → Nat → Int32 := hi_61
def hl_62 : Nat → Nat → Int64 := hl_61
def hr_62 : Nat → Nat → Option Nat := hr_61
set_option maxRecDepth 100000 in
theorem ct_0 {S : am_S} {d : Nat} {Q : am_Q} (hq : (am_E S 304 (d + 4) 99 25239 18 [.retAddr 3, .ref 0, .ref 66, .int 0] [] (99, ht_62, hi_62, hl_62, hr_62) Q)) : am_E S 304 (d + 4) 0 0 0 [.retAddr 3, am_jk, am_jk, am_jk] [] am_h0 Q := by
  show am_E S 304 (d + 4) 0 0 0 [.retAddr 3, am_jk, am_jk, am_jk] [] (0, ht_0, hi_0, hl_0, hr_0) Q
  refine am_E.run [4] 200 (show (am_E S 304 (d + 4) 1 14 4 [.retAddr 3, am_jk, am_jk, am_jk] [.ref 0, .ref 0] (1, ht_1, hi_1, hl_1, hr_1) Q) from ?_)
  refine am_E.go ⟨fun v h9 => v = none ∧ h9 = (66, ht_48, hi_48, hl_48, hr_48), ct_1 ⟨rfl, rfl⟩, ?_⟩
  intro v h9 hv
  obtain ⟨rfl, rfl⟩ := hv
  refine am_E.run [8] 200 (show (am_E S 304 (d + 4) 66 4810 8 [.retAddr 3, .ref 0, am_jk, am_jk] [] (66, ht_48, hi_48, hl_48, hr_48) Q) from ?_)
  refine am_E.run [12] 200 (show (am_E S 304 (d + 4) 67 4872 12 [.retAddr 3, .ref 0, am_jk, am_jk] [.ref 66, .ref 66] (67, ht_49, hi_49, hl_49, hr_49) Q) from ?_)
  refine am_E.go ⟨fun v h9 => v = none ∧ h9 = (99, ht_61, hi_61, hl_61, hr_61), ct_14 ⟨rfl, rfl⟩, ?_⟩
  intro v h9 hv
  obtain ⟨rfl, rfl⟩ := hv
  refine am_E.run [16] 200 (show (am_E S 304 (d + 4) 99 25239 16 [.retAddr 3, .ref 0, .ref 66, am_jk] [] (99, ht_61, hi_61, hl_61, hr_61) Q) from ?_)
  refine am_E.run [18] 200 (show (am_E S 304 (d + 4) 99 25239 18 [.retAddr 3, .ref 0, .ref 66, .int 0] [] (99, ht_61, hi_61, hl_61, hr_61) Q) from ?_)
  exact hq
