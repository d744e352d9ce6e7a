/-- KeyKeepers$Sergeant.doesOne(LKeyKeepers$Prison;LKeyKeepers$Goings;I)Z -/
def w_93 (x2 : Int32) (T : Nat → Nat × Nat) (r : Nat → Nat → Option Nat) (I : am_I) (K : Int32 → am_I → Prop) : Prop :=
  if x2 = 0 then
    w_94 (I 54 0) (I 54 1) T r I (fun q1 I2 =>
      if q1 < 0 then
        K 0 I2
      else
        K 1 I2)
  else
  if x2 = 1 then
    w_99 (I 54 0) (I 54 1) (I 54 2) T r I (fun q3 I4 =>
      if q3 < 0 then
        K 0 I4
      else
        K 1 I4)
  else
  if x2 = 2 then
    w_100 T r I (fun q5 I6 =>
      if q5 < 0 then
        K 0 (am_u I6 35 2 q5)
      else
        K 1 (am_u I6 35 2 q5))
  else
  w_102 T r I (fun q7 I8 =>
    if q7 < 0 then
      K 0 I8
    else
      K 1 I8)
set_option maxRecDepth 100000 in
theorem s_93 {S : am_S} {d : Nat} {N : Nat} {T : Nat → Nat × Nat} {I : am_I} {L : am_J} {r : Nat → Nat → Option Nat} {Q : am_Q} {x2 : Int32} {K : Int32 → am_I → Prop} (hw : w_93 x2 T r I K) (hK : ∀ (q : Int32) (I1 : am_I), K q I1 → Q (some (.int q)) (N, am_ts T, I1, L, am_rs r)) : am_E S 93 (d + 4) 0 0 0 [.ref 35, .ref 1, .ref 29, .int x2, am_jk] [] (N, am_ts T, I, L, am_rs r) Q := by
  unfold w_93 at hw
  try dsimp only at hw
  refine am_E.run [1] 2000 (show (am_E S 93 (d + 4) 0 0 1 [.ref 35, .ref 1, .ref 29, .int x2, am_jk] [.int x2] (N, am_ts T, I, L, am_rs r) Q) from ?_)
  by_cases hc0 : x2 = 0
  · rw [if_pos hc0] at hw
    refine am_E.swap (k := 0) hc0 ?_
    refine am_E.go (show (am_E S 93 (d + 4) 0 0 28 [.ref 35, .ref 1, .ref 29, .int x2, am_jk] [] (N, am_ts T, I, L, am_rs r) Q) from ?_)
    refine am_E.run [42] 2000 (show (am_E S 93 (d + 4) 0 0 42 [.ref 35, .ref 1, .ref 29, .int x2, am_jk] [.int (I 54 1), .int (I 54 0), .ref 1, .ref 29] (N, am_ts T, I, L, am_rs r) Q) from ?_)
    refine am_E.go ⟨am_ki_I N T L r _, s_94 hw (fun q1 I2 hk => ⟨q1, I2, rfl, rfl, hk⟩), ?_⟩
    intro v h9 hv
    obtain ⟨q1, I2, rfl, rfl, hw⟩ := hv
    try dsimp only at hw
    refine am_E.run [] 2000 (show (if q1 < 0 then (((0 : Int32) = 0 ∨ (0 : Int32) = 1) ∧ Q (some (.int 0)) (N, am_ts T, I2, L, am_rs r)) else (((1 : Int32) = 0 ∨ (1 : Int32) = 1) ∧ Q (some (.int 1)) (N, am_ts T, I2, L, am_rs r))) from ?_)
    by_cases hc : q1 < 0
    · rw [if_pos hc] at hw ⊢
      exact ⟨Or.inl rfl, hK _ _ hw⟩
    · rw [if_neg hc] at hw ⊢
      exact ⟨Or.inr rfl, hK _ _ hw⟩
  rw [if_neg hc0] at hw
  by_cases hc1 : x2 = 1
  · rw [if_pos hc1] at hw
    refine am_E.swap (k := 1) hc1 ?_
    refine am_E.go (show (am_E S 93 (d + 4) 0 0 54 [.ref 35, .ref 1, .ref 29, .int x2, am_jk] [] (N, am_ts T, I, L, am_rs r) Q) from ?_)
    refine am_E.run [74] 2000 (show (am_E S 93 (d + 4) 0 0 74 [.ref 35, .ref 1, .ref 29, .int x2, am_jk] [.int (I 54 2), .int (I 54 1), .int (I 54 0), .ref 1, .ref 29] (N, am_ts T, I, L, am_rs r) Q) from ?_)
    refine am_E.go ⟨am_ki_I N T L r _, s_99 hw (fun q3 I4 hk => ⟨q3, I4, rfl, rfl, hk⟩), ?_⟩
    intro v h9 hv
    obtain ⟨q3, I4, rfl, rfl, hw⟩ := hv
    try dsimp only at hw
    refine am_E.run [] 2000 (show (if q3 < 0 then (((0 : Int32) = 0 ∨ (0 : Int32) = 1) ∧ Q (some (.int 0)) (N, am_ts T, I4, L, am_rs r)) else (((1 : Int32) = 0 ∨ (1 : Int32) = 1) ∧ Q (some (.int 1)) (N, am_ts T, I4, L, am_rs r))) from ?_)
    by_cases hc : q3 < 0
    · rw [if_pos hc] at hw ⊢
      exact ⟨Or.inl rfl, hK _ _ hw⟩
    · rw [if_neg hc] at hw ⊢
      exact ⟨Or.inr rfl, hK _ _ hw⟩
  rw [if_neg hc1] at hw
  by_cases hc2 : x2 = 2
  · rw [if_pos hc2] at hw
    refine am_E.swap (k := 2) hc2 ?_
    refine am_E.go (show (am_E S 93 (d + 4) 0 0 86 [.ref 35, .ref 1, .ref 29, .int x2, am_jk] [] (N, am_ts T, I, L, am_rs r) Q) from ?_)
    refine am_E.run [88] 2000 (show (am_E S 93 (d + 4) 0 0 88 [.ref 35, .ref 1, .ref 29, .int x2, am_jk] [.ref 1, .ref 29] (N, am_ts T, I, L, am_rs r) Q) from ?_)
    refine am_E.go ⟨am_ki_I N T L r _, s_100 hw (fun q5 I6 hk => ⟨q5, I6, rfl, rfl, hk⟩), ?_⟩
    intro v h9 hv
    obtain ⟨q5, I6, rfl, rfl, hw⟩ := hv
    try dsimp only at hw
    refine am_E.run [] 2000 (show (if q5 < 0 then (((0 : Int32) = 0 ∨ (0 : Int32) = 1) ∧ Q (some (.int 0)) (N, am_ts T, (am_u I6 35 2 q5), L, am_rs r)) else (((1 : Int32) = 0 ∨ (1 : Int32) = 1) ∧ Q (some (.int 1)) (N, am_ts T, (am_u I6 35 2 q5), L, am_rs r))) from ?_)
    by_cases hc : q5 < 0
    · rw [if_pos hc] at hw ⊢
      exact ⟨Or.inl rfl, hK _ _ hw⟩
    · rw [if_neg hc] at hw ⊢
      exact ⟨Or.inr rfl, hK _ _ hw⟩
  rw [if_neg hc2] at hw
  have hd : (x2).toInt < 0 ∨ 2 < (x2).toInt := by
    have g0 := am_ine hc0
    have g1 := am_ine hc1
    have g2 := am_ine hc2
    change (x2).toInt ≠ 0 at g0
    change (x2).toInt ≠ 1 at g1
    change (x2).toInt ≠ 2 at g2
    omega
  refine am_E.go (show (if (x2).toInt < 0 ∨ 2 < (x2).toInt then (am_E S 93 (d + 4) 0 0 110 [.ref 35, .ref 1, .ref 29, .int x2, am_jk] [] (N, am_ts T, I, L, am_rs r) Q) else _) from ?_)
  rw [if_pos hd]
  refine am_E.run [112] 2000 (show (am_E S 93 (d + 4) 0 0 112 [.ref 35, .ref 1, .ref 29, .int x2, am_jk] [.ref 1, .ref 29] (N, am_ts T, I, L, am_rs r) Q) from ?_)
  refine am_E.go ⟨am_ki_I N T L r _, s_102 hw (fun q7 I8 hk => ⟨q7, I8, rfl, rfl, hk⟩), ?_⟩
  intro v h9 hv
  obtain ⟨q7, I8, rfl, rfl, hw⟩ := hv
  try dsimp only at hw
  refine am_E.run [] 2000 (show (if q7 < 0 then (((0 : Int32) = 0 ∨ (0 : Int32) = 1) ∧ Q (some (.int 0)) (N, am_ts T, I8, L, am_rs r)) else (((1 : Int32) = 0 ∨ (1 : Int32) = 1) ∧ Q (some (.int 1)) (N, am_ts T, I8, L, am_rs r))) from ?_)
  by_cases hc : q7 < 0
  · rw [if_pos hc] at hw ⊢
    exact ⟨Or.inl rfl, hK _ _ hw⟩
  · rw [if_neg hc] at hw ⊢
    exact ⟨Or.inr rfl, hK _ _ hw⟩
/-- KeyKeepers.asks(III)I -/
def w_107 (x0 : Int32) (x1 : Int32) (x2 : Int32) (T : Nat → Nat × Nat) (r : Nat → Nat → Option Nat) (I : am_I) (K : Int32 → am_I → Prop) : Prop :=
  if (4 : Int32) ≤ x1 then
    if (f_27 x0 I) = 0 then
      K (-1) I
    else
      if (f_13 x2 0 7) = 0 then
        K (-1) I
      else
        w_108 (I 1 16) T r I (fun q1 =>
          (q1 = none →
            if x1 = 0 then
              w_109n x0 x2 0 I (fun q3 I4 =>
                K q3 I4)
            else
            if x1 = 1 then
              w_109n x0 x2 1 I (fun q5 I6 =>
                K q5 I6)
            else
            if x1 = 2 then
              w_113n x0 x2 0 I (fun q7 I8 =>
                if q7 = 0 then
                  K 0 I8
                else
                  K 1 I8)
            else
            if x1 = 3 then
              w_113n x0 x2 1 I (fun q9 I10 =>
                if q9 = 0 then
                  K 0 I10
                else
                  K 1 I10)
            else
            if x1 = 4 then
              w_114n x0 x2 I (fun q11 I12 =>
                K q11 I12)
            else
            if x1 = 5 then
              w_115n x0 x2 I (fun q13 I14 =>
                K q13 I14)
            else
            if x1 = 6 then
              w_116n x0 x2 I (fun q15 I16 =>
                if q15 = 0 then
                  K 0 I16
                else
                  K 1 I16)
            else
            K (-1) I) ∧ ∀ t2, q1 = some t2 →
            if x1 = 0 then
              w_109s t2 x0 x2 0 T r I (fun q17 I18 =>
                K q17 I18)
            else
            if x1 = 1 then
              w_109s t2 x0 x2 1 T r I (fun q19 I20 =>
                K q19 I20)
            else
            if x1 = 2 then
              w_113s t2 x0 x2 0 T r I (fun q21 I22 =>
                if q21 = 0 then
                  K 0 I22
                else
                  K 1 I22)
            else
            if x1 = 3 then
              w_113s t2 x0 x2 1 T r I (fun q23 I24 =>
                if q23 = 0 then
                  K 0 I24
                else
                  K 1 I24)
            else
            if x1 = 4 then
              w_114s t2 x0 x2 T r I (fun q25 I26 =>
                K q25 I26)
            else
            if x1 = 5 then
              w_115s t2 x0 x2 T r I (fun q27 I28 =>
                K q27 I28)
            else
            if x1 = 6 then
              w_116s t2 x0 x2 T r I (fun q29 I30 =>
                if q29 = 0 then
                  K 0 I30
                else
                  K 1 I30)
            else
            K (-1) I)
  else
    if (f_27 x0 I) = 0 then
      K (-1) I
    else
      if (f_13 x2 0 5) = 0 then
        K (-1) I
      else
        w_108 (I 1 16) T r I (fun q31 =>
          (q31 = none →
            if x1 = 0 then
              w_109n x0 x2 0 I (fun q33 I34 =>
                K q33 I34)
            else
            if x1 = 1 then
              w_109n x0 x2 1 I (fun q35 I36 =>
                K q35 I36)
            else
            if x1 = 2 then
              w_113n x0 x2 0 I (fun q37 I38 =>
                if q37 = 0 then
                  K 0 I38
                else
                  K 1 I38)
            else
            if x1 = 3 then
              w_113n x0 x2 1 I (fun q39 I40 =>
                if q39 = 0 then
                  K 0 I40
                else
                  K 1 I40)
            else
            if x1 = 4 then
              w_114n x0 x2 I (fun q41 I42 =>
                K q41 I42)
            else
            if x1 = 5 then
              w_115n x0 x2 I (fun q43 I44 =>
                K q43 I44)
            else
            if x1 = 6 then
              w_116n x0 x2 I (fun q45 I46 =>
                if q45 = 0 then
                  K 0 I46
                else
                  K 1 I46)
            else
            K (-1) I) ∧ ∀ t32, q31 = some t32 →
            if x1 = 0 then
              w_109s t32 x0 x2 0 T r I (fun q47 I48 =>
                K q47 I48)
            else
            if x1 = 1 then
              w_109s t32 x0 x2 1 T r I (fun q49 I50 =>
                K q49 I50)
            else
            if x1 = 2 then
              w_113s t32 x0 x2 0 T r I (fun q51 I52 =>
                if q51 = 0 then
                  K 0 I52
                else
                  K 1 I52)
            else
            if x1 = 3 then
              w_113s t32 x0 x2 1 T r I (fun q53 I54 =>
                if q53 = 0 then
                  K 0 I54
                else
                  K 1 I54)
            else
            if x1 = 4 then
              w_114s t32 x0 x2 T r I (fun q55 I56 =>
                K q55 I56)
            else
            if x1 = 5 then
              w_115s t32 x0 x2 T r I (fun q57 I58 =>
                K q57 I58)
            else
            if x1 = 6 then
              w_116s t32 x0 x2 T r I (fun q59 I60 =>
                if q59 = 0 then
                  K 0 I60
                else
                  K 1 I60)
            else
            K (-1) I)
set_option maxRecDepth 100000 in
theorem s_107 {S : am_S} {d : Nat} {N : Nat} {T : Nat → Nat × Nat} {I : am_I} {L : am_J} {r : Nat → Nat → Option Nat} {Q : am_Q} {x0 : Int32} {x1 : Int32} {x2 : Int32} {K : Int32 → am_I → Prop} (hw : w_107 x0 x1 x2 T r I K) (hK : ∀ (q : Int32) (I1 : am_I), K q I1 → Q (some (.int q)) (N, am_ts T, I1, L, am_rs r)) : am_E S 107 (d + 5) 0 0 0 [.ref 0, .int x0, .int x1, .int x2, am_jk, am_jk] [] (N, am_ts T, I, L, am_rs r) Q := by
  unfold w_107 at hw
  try dsimp only at hw
  refine am_E.run [18] 2000 (show (if (4 : Int32) ≤ x1 then (am_E S 107 (d + 5) 0 0 18 [.ref 0, .int x0, .int x1, .int x2, .int 7, am_jk] [.int x0, .ref 1] (N, am_ts T, I, L, am_rs r) Q) else (am_E S 107 (d + 5) 0 0 18 [.ref 0, .int x0, .int x1, .int x2, .int 5, am_jk] [.int x0, .ref 1] (N, am_ts T, I, L, am_rs r) Q)) from ?_)
  by_cases hc : (4 : Int32) ≤ x1
  · rw [if_pos hc] at hw ⊢
    refine am_E.go ⟨fun v h9 => v = some (.int (f_27 x0 I)) ∧ h9 = (N, am_ts T, I, L, am_rs r), s_27 ⟨rfl, rfl⟩, ?_⟩
    intro v h9 hv
    obtain ⟨rfl, rfl⟩ := hv
    refine am_E.run [28] 2000 (show (if (f_27 x0 I) = 0 then (True ∧ Q (some (.int (-1))) (N, am_ts T, I, L, am_rs r)) else (am_E S 107 (d + 5) 0 0 28 [.ref 0, .int x0, .int x1, .int x2, .int 7, am_jk] [.int 7, .int 0, .int x2] (N, am_ts T, I, L, am_rs r) Q)) from ?_)
    by_cases hc : (f_27 x0 I) = 0
    · rw [if_pos hc] at hw ⊢
      exact ⟨trivial, hK _ _ hw⟩
    · rw [if_neg hc] at hw ⊢
      refine am_E.go ⟨fun v h9 => v = some (.int (f_13 x2 0 7)) ∧ h9 = (N, am_ts T, I, L, am_rs r), s_13 ⟨rfl, rfl⟩, ?_⟩
      intro v h9 hv
      obtain ⟨rfl, rfl⟩ := hv
      refine am_E.run [47] 2000 (show (if (f_13 x2 0 7) = 0 then (True ∧ Q (some (.int (-1))) (N, am_ts T, I, L, am_rs r)) else (am_E S 107 (d + 5) 0 0 47 [.ref 0, .int x0, .int x1, .int x2, .int 7, am_jk] [.int (I 1 16), .ref 1] (N, am_ts T, I, L, am_rs r) Q)) from ?_)
      by_cases hc : (f_13 x2 0 7) = 0
      · rw [if_pos hc] at hw ⊢
        exact ⟨trivial, hK _ _ hw⟩
      · rw [if_neg hc] at hw ⊢
        refine am_E.go ⟨am_kr_ N T I L r _, s_108 hw (fun q1 hk => ⟨q1, rfl, rfl, hk⟩), ?_⟩
        intro v h9 hv
        obtain ⟨q1, rfl, rfl, hw⟩ := hv
        try dsimp only at hw
        show (am_E S 107 (d + 5) 0 0 50 [.ref 0, .int x0, .int x1, .int x2, .int 7, am_jk] [am_rv q1] (N, am_ts T, I, L, am_rs r) Q)
        cases hx : q1 with
        | none =>
          replace hw := hw.1 hx
          refine am_E.run [53] 2000 (show (am_E S 107 (d + 5) 0 0 53 [.ref 0, .int x0, .int x1, .int x2, .int 7, .null] [.int x1] (N, am_ts T, I, L, am_rs r) Q) from ?_)
          by_cases hc0 : x1 = 0
          · rw [if_pos hc0] at hw
            refine am_E.swap (k := 0) hc0 ?_
            refine am_E.go (show (am_E S 107 (d + 5) 0 0 96 [.ref 0, .int x0, .int x1, .int x2, .int 7, .null] [] (N, am_ts T, I, L, am_rs r) Q) from ?_)
            refine am_E.run [109] 2000 (show (am_E S 107 (d + 5) 0 0 109 [.ref 0, .int x0, .int x1, .int x2, .int 7, .null] [.int 0, .int x2, .int x0, .null, .ref 1, .ref 23] (N, am_ts T, I, L, am_rs r) Q) from ?_)
            refine am_E.go ⟨am_ki_I N T L r _, s_109n hw (fun q3 I4 hk => ⟨q3, I4, rfl, rfl, hk⟩), ?_⟩
            intro v h9 hv
            obtain ⟨q3, I4, rfl, rfl, hw⟩ := hv
            try dsimp only at hw
            refine am_E.run [] 2000 (show (True ∧ Q (some (.int q3)) (N, am_ts T, I4, L, am_rs r)) from ?_)
            exact ⟨trivial, hK _ _ hw⟩
          rw [if_neg hc0] at hw
          by_cases hc1 : x1 = 1
          · rw [if_pos hc1] at hw
            refine am_E.swap (k := 1) hc1 ?_
            refine am_E.go (show (am_E S 107 (d + 5) 0 0 113 [.ref 0, .int x0, .int x1, .int x2, .int 7, .null] [] (N, am_ts T, I, L, am_rs r) Q) from ?_)
            refine am_E.run [126] 2000 (show (am_E S 107 (d + 5) 0 0 126 [.ref 0, .int x0, .int x1, .int x2, .int 7, .null] [.int 1, .int x2, .int x0, .null, .ref 1, .ref 23] (N, am_ts T, I, L, am_rs r) Q) from ?_)
            refine am_E.go ⟨am_ki_I N T L r _, s_109n hw (fun q5 I6 hk => ⟨q5, I6, rfl, rfl, hk⟩), ?_⟩
            intro v h9 hv
            obtain ⟨q5, I6, rfl, rfl, hw⟩ := hv
            try dsimp only at hw
            refine am_E.run [] 2000 (show (True ∧ Q (some (.int q5)) (N, am_ts T, I6, L, am_rs r)) from ?_)
            exact ⟨trivial, hK _ _ hw⟩
          rw [if_neg hc1] at hw
          by_cases hc2 : x1 = 2
          · rw [if_pos hc2] at hw
            refine am_E.swap (k := 2) hc2 ?_
            refine am_E.go (show (am_E S 107 (d + 5) 0 0 130 [.ref 0, .int x0, .int x1, .int x2, .int 7, .null] [] (N, am_ts T, I, L, am_rs r) Q) from ?_)
            refine am_E.run [143] 2000 (show (am_E S 107 (d + 5) 0 0 143 [.ref 0, .int x0, .int x1, .int x2, .int 7, .null] [.int 0, .int x2, .int x0, .null, .ref 1, .ref 23] (N, am_ts T, I, L, am_rs r) Q) from ?_)
            refine am_E.go ⟨am_ki_I N T L r _, s_113n hw (fun q7 I8 hk => ⟨q7, I8, rfl, rfl, hk⟩), ?_⟩
            intro v h9 hv
            obtain ⟨q7, I8, rfl, rfl, hw⟩ := hv
            try dsimp only at hw
            refine am_E.run [] 2000 (show (if q7 = 0 then (True ∧ Q (some (.int 0)) (N, am_ts T, I8, L, am_rs r)) else (True ∧ Q (some (.int 1)) (N, am_ts T, I8, L, am_rs r))) from ?_)
            by_cases hc : q7 = 0
            · rw [if_pos hc] at hw ⊢
              exact ⟨trivial, hK _ _ hw⟩
            · rw [if_neg hc] at hw ⊢
              exact ⟨trivial, hK _ _ hw⟩
          rw [if_neg hc2] at hw
          by_cases hc3 : x1 = 3
          · rw [if_pos hc3] at hw
            refine am_E.swap (k := 3) hc3 ?_
            refine am_E.go (show (am_E S 107 (d + 5) 0 0 155 [.ref 0, .int x0, .int x1, .int x2, .int 7, .null] [] (N, am_ts T, I, L, am_rs r) Q) from ?_)
            refine am_E.run [168] 2000 (show (am_E S 107 (d + 5) 0 0 168 [.ref 0, .int x0, .int x1, .int x2, .int 7, .null] [.int 1, .int x2, .int x0, .null, .ref 1, .ref 23] (N, am_ts T, I, L, am_rs r) Q) from ?_)
            refine am_E.go ⟨am_ki_I N T L r _, s_113n hw (fun q9 I10 hk => ⟨q9, I10, rfl, rfl, hk⟩), ?_⟩
            intro v h9 hv
            obtain ⟨q9, I10, rfl, rfl, hw⟩ := hv
            try dsimp only at hw
            refine am_E.run [] 2000 (show (if q9 = 0 then (True ∧ Q (some (.int 0)) (N, am_ts T, I10, L, am_rs r)) else (True ∧ Q (some (.int 1)) (N, am_ts T, I10, L, am_rs r))) from ?_)
            by_cases hc : q9 = 0
            · rw [if_pos hc] at hw ⊢
              exact ⟨trivial, hK _ _ hw⟩
            · rw [if_neg hc] at hw ⊢
              exact ⟨trivial, hK _ _ hw⟩
          rw [if_neg hc3] at hw
          by_cases hc4 : x1 = 4
          · rw [if_pos hc4] at hw
            refine am_E.swap (k := 4) hc4 ?_
            refine am_E.go (show (am_E S 107 (d + 5) 0 0 180 [.ref 0, .int x0, .int x1, .int x2, .int 7, .null] [] (N, am_ts T, I, L, am_rs r) Q) from ?_)
            refine am_E.run [192] 2000 (show (am_E S 107 (d + 5) 0 0 192 [.ref 0, .int x0, .int x1, .int x2, .int 7, .null] [.int x2, .int x0, .null, .ref 1, .ref 23] (N, am_ts T, I, L, am_rs r) Q) from ?_)
            refine am_E.go ⟨am_ki_I N T L r _, s_114n hw (fun q11 I12 hk => ⟨q11, I12, rfl, rfl, hk⟩), ?_⟩
            intro v h9 hv
            obtain ⟨q11, I12, rfl, rfl, hw⟩ := hv
            try dsimp only at hw
            refine am_E.run [] 2000 (show (True ∧ Q (some (.int q11)) (N, am_ts T, I12, L, am_rs r)) from ?_)
            exact ⟨trivial, hK _ _ hw⟩
          rw [if_neg hc4] at hw
          by_cases hc5 : x1 = 5
          · rw [if_pos hc5] at hw
            refine am_E.swap (k := 5) hc5 ?_
            refine am_E.go (show (am_E S 107 (d + 5) 0 0 196 [.ref 0, .int x0, .int x1, .int x2, .int 7, .null] [] (N, am_ts T, I, L, am_rs r) Q) from ?_)
            refine am_E.run [208] 2000 (show (am_E S 107 (d + 5) 0 0 208 [.ref 0, .int x0, .int x1, .int x2, .int 7, .null] [.int x2, .int x0, .null, .ref 1, .ref 23] (N, am_ts T, I, L, am_rs r) Q) from ?_)
            refine am_E.go ⟨am_ki_I N T L r _, s_115n hw (fun q13 I14 hk => ⟨q13, I14, rfl, rfl, hk⟩), ?_⟩
            intro v h9 hv
            obtain ⟨q13, I14, rfl, rfl, hw⟩ := hv
            try dsimp only at hw
            refine am_E.run [] 2000 (show (True ∧ Q (some (.int q13)) (N, am_ts T, I14, L, am_rs r)) from ?_)
            exact ⟨trivial, hK _ _ hw⟩
          rw [if_neg hc5] at hw
          by_cases hc6 : x1 = 6
          · rw [if_pos hc6] at hw
            refine am_E.swap (k := 6) hc6 ?_
            refine am_E.go (show (am_E S 107 (d + 5) 0 0 212 [.ref 0, .int x0, .int x1, .int x2, .int 7, .null] [] (N, am_ts T, I, L, am_rs r) Q) from ?_)
            refine am_E.run [224] 2000 (show (am_E S 107 (d + 5) 0 0 224 [.ref 0, .int x0, .int x1, .int x2, .int 7, .null] [.int x2, .int x0, .null, .ref 1, .ref 23] (N, am_ts T, I, L, am_rs r) Q) from ?_)
            refine am_E.go ⟨am_ki_I N T L r _, s_116n hw (fun q15 I16 hk => ⟨q15, I16, rfl, rfl, hk⟩), ?_⟩
            intro v h9 hv
            obtain ⟨q15, I16, rfl, rfl, hw⟩ := hv
            try dsimp only at hw
            refine am_E.run [] 2000 (show (if q15 = 0 then (True ∧ Q (some (.int 0)) (N, am_ts T, I16, L, am_rs r)) else (True ∧ Q (some (.int 1)) (N, am_ts T, I16, L, am_rs r))) from ?_)
            by_cases hc : q15 = 0
            · rw [if_pos hc] at hw ⊢
              exact ⟨trivial, hK _ _ hw⟩
            · rw [if_neg hc] at hw ⊢
              exact ⟨trivial, hK _ _ hw⟩
          rw [if_neg hc6] at hw
          have hd : (x1).toInt < 0 ∨ 6 < (x1).toInt := by
            have g0 := am_ine hc0
            have g1 := am_ine hc1
            have g2 := am_ine hc2
            have g3 := am_ine hc3
            have g4 := am_ine hc4
            have g5 := am_ine hc5
            have g6 := am_ine hc6
            change (x1).toInt ≠ 0 at g0
            change (x1).toInt ≠ 1 at g1
            change (x1).toInt ≠ 2 at g2
            change (x1).toInt ≠ 3 at g3
            change (x1).toInt ≠ 4 at g4
            change (x1).toInt ≠ 5 at g5
            change (x1).toInt ≠ 6 at g6
            omega
          refine am_E.go (show (if (x1).toInt < 0 ∨ 6 < (x1).toInt then (am_E S 107 (d + 5) 0 0 236 [.ref 0, .int x0, .int x1, .int x2, .int 7, .null] [] (N, am_ts T, I, L, am_rs r) Q) else _) from ?_)
          rw [if_pos hd]
          refine am_E.run [] 2000 (show (True ∧ Q (some (.int (-1))) (N, am_ts T, I, L, am_rs r)) from ?_)
          exact ⟨trivial, hK _ _ hw⟩
        | some t2 =>
          replace hw := hw.2 t2 hx
          refine am_E.run [53] 2000 (show (am_E S 107 (d + 5) 0 0 53 [.ref 0, .int x0, .int x1, .int x2, .int 7, .ref t2] [.int x1] (N, am_ts T, I, L, am_rs r) Q) from ?_)
          by_cases hc0 : x1 = 0
          · rw [if_pos hc0] at hw
            refine am_E.swap (k := 0) hc0 ?_
            refine am_E.go (show (am_E S 107 (d + 5) 0 0 96 [.ref 0, .int x0, .int x1, .int x2, .int 7, .ref t2] [] (N, am_ts T, I, L, am_rs r) Q) from ?_)
            refine am_E.run [109] 2000 (show (am_E S 107 (d + 5) 0 0 109 [.ref 0, .int x0, .int x1, .int x2, .int 7, .ref t2] [.int 0, .int x2, .int x0, .ref t2, .ref 1, .ref 23] (N, am_ts T, I, L, am_rs r) Q) from ?_)
            refine am_E.go ⟨am_ki_I N T L r _, s_109s hw (fun q17 I18 hk => ⟨q17, I18, rfl, rfl, hk⟩), ?_⟩
            intro v h9 hv
            obtain ⟨q17, I18, rfl, rfl, hw⟩ := hv
            try dsimp only at hw
            refine am_E.run [] 2000 (show (True ∧ Q (some (.int q17)) (N, am_ts T, I18, L, am_rs r)) from ?_)
            exact ⟨trivial, hK _ _ hw⟩
          rw [if_neg hc0] at hw
          by_cases hc1 : x1 = 1
          · rw [if_pos hc1] at hw
            refine am_E.swap (k := 1) hc1 ?_
            refine am_E.go (show (am_E S 107 (d + 5) 0 0 113 [.ref 0, .int x0, .int x1, .int x2, .int 7, .ref t2] [] (N, am_ts T, I, L, am_rs r) Q) from ?_)
            refine am_E.run [126] 2000 (show (am_E S 107 (d + 5) 0 0 126 [.ref 0, .int x0, .int x1, .int x2, .int 7, .ref t2] [.int 1, .int x2, .int x0, .ref t2, .ref 1, .ref 23] (N, am_ts T, I, L, am_rs r) Q) from ?_)
            refine am_E.go ⟨am_ki_I N T L r _, s_109s hw (fun q19 I20 hk => ⟨q19, I20, rfl, rfl, hk⟩), ?_⟩
            intro v h9 hv
            obtain ⟨q19, I20, rfl, rfl, hw⟩ := hv
            try dsimp only at hw
            refine am_E.run [] 2000 (show (True ∧ Q (some (.int q19)) (N, am_ts T, I20, L, am_rs r)) from ?_)
            exact ⟨trivial, hK _ _ hw⟩
          rw [if_neg hc1] at hw
          by_cases hc2 : x1 = 2
          · rw [if_pos hc2] at hw
            refine am_E.swap (k := 2) hc2 ?_
            refine am_E.go (show (am_E S 107 (d + 5) 0 0 130 [.ref 0, .int x0, .int x1, .int x2, .int 7, .ref t2] [] (N, am_ts T, I, L, am_rs r) Q) from ?_)
            refine am_E.run [143] 2000 (show (am_E S 107 (d + 5) 0 0 143 [.ref 0, .int x0, .int x1, .int x2, .int 7, .ref t2] [.int 0, .int x2, .int x0, .ref t2, .ref 1, .ref 23] (N, am_ts T, I, L, am_rs r) Q) from ?_)
            refine am_E.go ⟨am_ki_I N T L r _, s_113s hw (fun q21 I22 hk => ⟨q21, I22, rfl, rfl, hk⟩), ?_⟩
            intro v h9 hv
            obtain ⟨q21, I22, rfl, rfl, hw⟩ := hv
            try dsimp only at hw
            refine am_E.run [] 2000 (show (if q21 = 0 then (True ∧ Q (some (.int 0)) (N, am_ts T, I22, L, am_rs r)) else (True ∧ Q (some (.int 1)) (N, am_ts T, I22, L, am_rs r))) from ?_)
            by_cases hc : q21 = 0
            · rw [if_pos hc] at hw ⊢
              exact ⟨trivial, hK _ _ hw⟩
            · rw [if_neg hc] at hw ⊢
              exact ⟨trivial, hK _ _ hw⟩
          rw [if_neg hc2] at hw
          by_cases hc3 : x1 = 3
          · rw [if_pos hc3] at hw
            refine am_E.swap (k := 3) hc3 ?_
            refine am_E.go (show (am_E S 107 (d + 5) 0 0 155 [.ref 0, .int x0, .int x1, .int x2, .int 7, .ref t2] [] (N, am_ts T, I, L, am_rs r) Q) from ?_)
            refine am_E.run [168] 2000 (show (am_E S 107 (d + 5) 0 0 168 [.ref 0, .int x0, .int x1, .int x2, .int 7, .ref t2] [.int 1, .int x2, .int x0, .ref t2, .ref 1, .ref 23] (N, am_ts T, I, L, am_rs r) Q) from ?_)
            refine am_E.go ⟨am_ki_I N T L r _, s_113s hw (fun q23 I24 hk => ⟨q23, I24, rfl, rfl, hk⟩), ?_⟩
            intro v h9 hv
            obtain ⟨q23, I24, rfl, rfl, hw⟩ := hv
            try dsimp only at hw
            refine am_E.run [] 2000 (show (if q23 = 0 then (True ∧ Q (some (.int 0)) (N, am_ts T, I24, L, am_rs r)) else (True ∧ Q (some (.int 1)) (N, am_ts T, I24, L, am_rs r))) from ?_)
            by_cases hc : q23 = 0
            · rw [if_pos hc] at hw ⊢
              exact ⟨trivial, hK _ _ hw⟩
            · rw [if_neg hc] at hw ⊢
              exact ⟨trivial, hK _ _ hw⟩
          rw [if_neg hc3] at hw
          by_cases hc4 : x1 = 4
          · rw [if_pos hc4] at hw
            refine am_E.swap (k := 4) hc4 ?_
            refine am_E.go (show (am_E S 107 (d + 5) 0 0 180 [.ref 0, .int x0, .int x1, .int x2, .int 7, .ref t2] [] (N, am_ts T, I, L, am_rs r) Q) from ?_)
            refine am_E.run [192] 2000 (show (am_E S 107 (d + 5) 0 0 192 [.ref 0, .int x0, .int x1, .int x2, .int 7, .ref t2] [.int x2, .int x0, .ref t2, .ref 1, .ref 23] (N, am_ts T, I, L, am_rs r) Q) from ?_)
            refine am_E.go ⟨am_ki_I N T L r _, s_114s hw (fun q25 I26 hk => ⟨q25, I26, rfl, rfl, hk⟩), ?_⟩
            intro v h9 hv
            obtain ⟨q25, I26, rfl, rfl, hw⟩ := hv
            try dsimp only at hw
            refine am_E.run [] 2000 (show (True ∧ Q (some (.int q25)) (N, am_ts T, I26, L, am_rs r)) from ?_)
            exact ⟨trivial, hK _ _ hw⟩
          rw [if_neg hc4] at hw
          by_cases hc5 : x1 = 5
          · rw [if_pos hc5] at hw
            refine am_E.swap (k := 5) hc5 ?_
            refine am_E.go (show (am_E S 107 (d + 5) 0 0 196 [.ref 0, .int x0, .int x1, .int x2, .int 7, .ref t2] [] (N, am_ts T, I, L, am_rs r) Q) from ?_)
            refine am_E.run [208] 2000 (show (am_E S 107 (d + 5) 0 0 208 [.ref 0, .int x0, .int x1, .int x2, .int 7, .ref t2] [.int x2, .int x0, .ref t2, .ref 1, .ref 23] (N, am_ts T, I, L, am_rs r) Q) from ?_)
            refine am_E.go ⟨am_ki_I N T L r _, s_115s hw (fun q27 I28 hk => ⟨q27, I28, rfl, rfl, hk⟩), ?_⟩
            intro v h9 hv
            obtain ⟨q27, I28, rfl, rfl, hw⟩ := hv
            try dsimp only at hw
            refine am_E.run [] 2000 (show (True ∧ Q (some (.int q27)) (N, am_ts T, I28, L, am_rs r)) from ?_)
            exact ⟨trivial, hK _ _ hw⟩
          rw [if_neg hc5] at hw
          by_cases hc6 : x1 = 6
          · rw [if_pos hc6] at hw
            refine am_E.swap (k := 6) hc6 ?_
            refine am_E.go (show (am_E S 107 (d + 5) 0 0 212 [.ref 0, .int x0, .int x1, .int x2, .int 7, .ref t2] [] (N, am_ts T, I, L, am_rs r) Q) from ?_)
            refine am_E.run [224] 2000 (show (am_E S 107 (d + 5) 0 0 224 [.ref 0, .int x0, .int x1, .int x2, .int 7, .ref t2] [.int x2, .int x0, .ref t2, .ref 1, .ref 23] (N, am_ts T, I, L, am_rs r) Q) from ?_)
            refine am_E.go ⟨am_ki_I N T L r _, s_116s hw (fun q29 I30 hk => ⟨q29, I30, rfl, rfl, hk⟩), ?_⟩
            intro v h9 hv
            obtain ⟨q29, I30, rfl, rfl, hw⟩ := hv
            try dsimp only at hw
            refine am_E.run [] 2000 (show (if q29 = 0 then (True ∧ Q (some (.int 0)) (N, am_ts T, I30, L, am_rs r)) else (True ∧ Q (some (.int 1)) (N, am_ts T, I30, L, am_rs r))) from ?_)
            by_cases hc : q29 = 0
            · rw [if_pos hc] at hw ⊢
              exact ⟨trivial, hK _ _ hw⟩
            · rw [if_neg hc] at hw ⊢
              exact ⟨trivial, hK _ _ hw⟩
          rw [if_neg hc6] at hw
          have hd : (x1).toInt < 0 ∨ 6 < (x1).toInt := by
            have g0 := am_ine hc0
            have g1 := am_ine hc1
            have g2 := am_ine hc2
            have g3 := am_ine hc3
            have g4 := am_ine hc4
            have g5 := am_ine hc5
            have g6 := am_ine hc6
            change (x1).toInt ≠ 0 at g0
            change (x1).toInt ≠ 1 at g1
            change (x1).toInt ≠ 2 at g2
            change (x1).toInt ≠ 3 at g3
            change (x1).toInt ≠ 4 at g4
            change (x1).toInt ≠ 5 at g5
            change (x1).toInt ≠ 6 at g6
            omega
          refine am_E.go (show (if (x1).toInt < 0 ∨ 6 < (x1).toInt then (am_E S 107 (d + 5) 0 0 236 [.ref 0, .int x0, .int x1, .int x2, .int 7, .ref t2] [] (N, am_ts T, I, L, am_rs r) Q) else _) from ?_)
          rw [if_pos hd]
          refine am_E.run [] 2000 (show (True ∧ Q (some (.int (-1))) (N, am_ts T, I, L, am_rs r)) from ?_)
          exact ⟨trivial, hK _ _ hw⟩
  · rw [if_neg hc] at hw ⊢
    refine am_E.go ⟨fun v h9 => v = some (.int (f_27 x0 I)) ∧ h9 = (N, am_ts T, I, L, am_rs r), s_27 ⟨rfl, rfl⟩, ?_⟩
    intro v h9 hv
    obtain ⟨rfl, rfl⟩ := hv
    refine am_E.run [28] 2000 (show (if (f_27 x0 I) = 0 then (True ∧ Q (some (.int (-1))) (N, am_ts T, I, L, am_rs r)) else (am_E S 107 (d + 5) 0 0 28 [.ref 0, .int x0, .int x1, .int x2, .int 5, am_jk] [.int 5, .int 0, .int x2] (N, am_ts T, I, L, am_rs r) Q)) from ?_)
    by_cases hc : (f_27 x0 I) = 0
    · rw [if_pos hc] at hw ⊢
      exact ⟨trivial, hK _ _ hw⟩
    · rw [if_neg hc] at hw ⊢
      refine am_E.go ⟨fun v h9 => v = some (.int (f_13 x2 0 5)) ∧ h9 = (N, am_ts T, I, L, am_rs r), s_13 ⟨rfl, rfl⟩, ?_⟩
      intro v h9 hv
      obtain ⟨rfl, rfl⟩ := hv
      refine am_E.run [47] 2000 (show (if (f_13 x2 0 5) = 0 then (True ∧ Q (some (.int (-1))) (N, am_ts T, I, L, am_rs r)) else (am_E S 107 (d + 5) 0 0 47 [.ref 0, .int x0, .int x1, .int x2, .int 5, am_jk] [.int (I 1 16), .ref 1] (N, am_ts T, I, L, am_rs r) Q)) from ?_)
      by_cases hc : (f_13 x2 0 5) = 0
      · rw [if_pos hc] at hw ⊢
        exact ⟨trivial, hK _ _ hw⟩
      · rw [if_neg hc] at hw ⊢
        refine am_E.go ⟨am_kr_ N T I L r _, s_108 hw (fun q31 hk => ⟨q31, rfl, rfl, hk⟩), ?_⟩
        intro v h9 hv
        obtain ⟨q31, rfl, rfl, hw⟩ := hv
        try dsimp only at hw
        show (am_E S 107 (d + 5) 0 0 50 [.ref 0, .int x0, .int x1, .int x2, .int 5, am_jk] [am_rv q31] (N, am_ts T, I, L, am_rs r) Q)
        cases hx : q31 with
        | none =>
          replace hw := hw.1 hx
          refine am_E.run [53] 2000 (show (am_E S 107 (d + 5) 0 0 53 [.ref 0, .int x0, .int x1, .int x2, .int 5, .null] [.int x1] (N, am_ts T, I, L, am_rs r) Q) from ?_)
          by_cases hc0 : x1 = 0
          · rw [if_pos hc0] at hw
            refine am_E.swap (k := 0) hc0 ?_
            refine am_E.go (show (am_E S 107 (d + 5) 0 0 96 [.ref 0, .int x0, .int x1, .int x2, .int 5, .null] [] (N, am_ts T, I, L, am_rs r) Q) from ?_)
            refine am_E.run [109] 2000 (show (am_E S 107 (d + 5) 0 0 109 [.ref 0, .int x0, .int x1, .int x2, .int 5, .null] [.int 0, .int x2, .int x0, .null, .ref 1, .ref 23] (N, am_ts T, I, L, am_rs r) Q) from ?_)
            refine am_E.go ⟨am_ki_I N T L r _, s_109n hw (fun q33 I34 hk => ⟨q33, I34, rfl, rfl, hk⟩), ?_⟩
            intro v h9 hv
            obtain ⟨q33, I34, rfl, rfl, hw⟩ := hv
            try dsimp only at hw
            refine am_E.run [] 2000 (show (True ∧ Q (some (.int q33)) (N, am_ts T, I34, L, am_rs r)) from ?_)
            exact ⟨trivial, hK _ _ hw⟩
          rw [if_neg hc0] at hw
          by_cases hc1 : x1 = 1
          · rw [if_pos hc1] at hw
            refine am_E.swap (k := 1) hc1 ?_
            refine am_E.go (show (am_E S 107 (d + 5) 0 0 113 [.ref 0, .int x0, .int x1, .int x2, .int 5, .null] [] (N, am_ts T, I, L, am_rs r) Q) from ?_)
            refine am_E.run [126] 2000 (show (am_E S 107 (d + 5) 0 0 126 [.ref 0, .int x0, .int x1, .int x2, .int 5, .null] [.int 1, .int x2, .int x0, .null, .ref 1, .ref 23] (N, am_ts T, I, L, am_rs r) Q) from ?_)
            refine am_E.go ⟨am_ki_I N T L r _, s_109n hw (fun q35 I36 hk => ⟨q35, I36, rfl, rfl, hk⟩), ?_⟩
            intro v h9 hv
            obtain ⟨q35, I36, rfl, rfl, hw⟩ := hv
            try dsimp only at hw
            refine am_E.run [] 2000 (show (True ∧ Q (some (.int q35)) (N, am_ts T, I36, L, am_rs r)) from ?_)
            exact ⟨trivial, hK _ _ hw⟩
          rw [if_neg hc1] at hw
          by_cases hc2 : x1 = 2
          · rw [if_pos hc2] at hw
            refine am_E.swap (k := 2) hc2 ?_
            refine am_E.go (show (am_E S 107 (d + 5) 0 0 130 [.ref 0, .int x0, .int x1, .int x2, .int 5, .null] [] (N, am_ts T, I, L, am_rs r) Q) from ?_)
            refine am_E.run [143] 2000 (show (am_E S 107 (d + 5) 0 0 143 [.ref 0, .int x0, .int x1, .int x2, .int 5, .null] [.int 0, .int x2, .int x0, .null, .ref 1, .ref 23] (N, am_ts T, I, L, am_rs r) Q) from ?_)
            refine am_E.go ⟨am_ki_I N T L r _, s_113n hw (fun q37 I38 hk => ⟨q37, I38, rfl, rfl, hk⟩), ?_⟩
            intro v h9 hv
            obtain ⟨q37, I38, rfl, rfl, hw⟩ := hv
            try dsimp only at hw
            refine am_E.run [] 2000 (show (if q37 = 0 then (True ∧ Q (some (.int 0)) (N, am_ts T, I38, L, am_rs r)) else (True ∧ Q (some (.int 1)) (N, am_ts T, I38, L, am_rs r))) from ?_)
            by_cases hc : q37 = 0
            · rw [if_pos hc] at hw ⊢
              exact ⟨trivial, hK _ _ hw⟩
            · rw [if_neg hc] at hw ⊢
              exact ⟨trivial, hK _ _ hw⟩
          rw [if_neg hc2] at hw
          by_cases hc3 : x1 = 3
          · rw [if_pos hc3] at hw
            refine am_E.swap (k := 3) hc3 ?_
            refine am_E.go (show (am_E S 107 (d + 5) 0 0 155 [.ref 0, .int x0, .int x1, .int x2, .int 5, .null] [] (N, am_ts T, I, L, am_rs r) Q) from ?_)
            refine am_E.run [168] 2000 (show (am_E S 107 (d + 5) 0 0 168 [.ref 0, .int x0, .int x1, .int x2, .int 5, .null] [.int 1, .int x2, .int x0, .null, .ref 1, .ref 23] (N, am_ts T, I, L, am_rs r) Q) from ?_)
            refine am_E.go ⟨am_ki_I N T L r _, s_113n hw (fun q39 I40 hk => ⟨q39, I40, rfl, rfl, hk⟩), ?_⟩
            intro v h9 hv
            obtain ⟨q39, I40, rfl, rfl, hw⟩ := hv
            try dsimp only at hw
            refine am_E.run [] 2000 (show (if q39 = 0 then (True ∧ Q (some (.int 0)) (N, am_ts T, I40, L, am_rs r)) else (True ∧ Q (some (.int 1)) (N, am_ts T, I40, L, am_rs r))) from ?_)
            by_cases hc : q39 = 0
            · rw [if_pos hc] at hw ⊢
              exact ⟨trivial, hK _ _ hw⟩
            · rw [if_neg hc] at hw ⊢
              exact ⟨trivial, hK _ _ hw⟩
          rw [if_neg hc3] at hw
          by_cases hc4 : x1 = 4
          · rw [if_pos hc4] at hw
            refine am_E.swap (k := 4) hc4 ?_
            refine am_E.go (show (am_E S 107 (d + 5) 0 0 180 [.ref 0, .int x0, .int x1, .int x2, .int 5, .null] [] (N, am_ts T, I, L, am_rs r) Q) from ?_)
            refine am_E.run [192] 2000 (show (am_E S 107 (d + 5) 0 0 192 [.ref 0, .int x0, .int x1, .int x2, .int 5, .null] [.int x2, .int x0, .null, .ref 1, .ref 23] (N, am_ts T, I, L, am_rs r) Q) from ?_)
            refine am_E.go ⟨am_ki_I N T L r _, s_114n hw (fun q41 I42 hk => ⟨q41, I42, rfl, rfl, hk⟩), ?_⟩
            intro v h9 hv
            obtain ⟨q41, I42, rfl, rfl, hw⟩ := hv
            try dsimp only at hw
            refine am_E.run [] 2000 (show (True ∧ Q (some (.int q41)) (N, am_ts T, I42, L, am_rs r)) from ?_)
            exact ⟨trivial, hK _ _ hw⟩
          rw [if_neg hc4] at hw
          by_cases hc5 : x1 = 5
          · rw [if_pos hc5] at hw
            refine am_E.swap (k := 5) hc5 ?_
            refine am_E.go (show (am_E S 107 (d + 5) 0 0 196 [.ref 0, .int x0, .int x1, .int x2, .int 5, .null] [] (N, am_ts T, I, L, am_rs r) Q) from ?_)
            refine am_E.run [208] 2000 (show (am_E S 107 (d + 5) 0 0 208 [.ref 0, .int x0, .int x1, .int x2, .int 5, .null] [.int x2, .int x0, .null, .ref 1, .ref 23] (N, am_ts T, I, L, am_rs r) Q) from ?_)
            refine am_E.go ⟨am_ki_I N T L r _, s_115n hw (fun q43 I44 hk => ⟨q43, I44, rfl, rfl, hk⟩), ?_⟩
            intro v h9 hv
            obtain ⟨q43, I44, rfl, rfl, hw⟩ := hv
            try dsimp only at hw
            refine am_E.run [] 2000 (show (True ∧ Q (some (.int q43)) (N, am_ts T, I44, L, am_rs r)) from ?_)
            exact ⟨trivial, hK _ _ hw⟩
          rw [if_neg hc5] at hw
          by_cases hc6 : x1 = 6
          · rw [if_pos hc6] at hw
            refine am_E.swap (k := 6) hc6 ?_
            refine am_E.go (show (am_E S 107 (d + 5) 0 0 212 [.ref 0, .int x0, .int x1, .int x2, .int 5, .null] [] (N, am_ts T, I, L, am_rs r) Q) from ?_)
            refine am_E.run [224] 2000 (show (am_E S 107 (d + 5) 0 0 224 [.ref 0, .int x0, .int x1, .int x2, .int 5, .null] [.int x2, .int x0, .null, .ref 1, .ref 23] (N, am_ts T, I, L, am_rs r) Q) from ?_)
            refine am_E.go ⟨am_ki_I N T L r _, s_116n hw (fun q45 I46 hk => ⟨q45, I46, rfl, rfl, hk⟩), ?_⟩
            intro v h9 hv
            obtain ⟨q45, I46, rfl, rfl, hw⟩ := hv
            try dsimp only at hw
            refine am_E.run [] 2000 (show (if q45 = 0 then (True ∧ Q (some (.int 0)) (N, am_ts T, I46, L, am_rs r)) else (True ∧ Q (some (.int 1)) (N, am_ts T, I46, L, am_rs r))) from ?_)
            by_cases hc : q45 = 0
            · rw [if_pos hc] at hw ⊢
              exact ⟨trivial, hK _ _ hw⟩
            · rw [if_neg hc] at hw ⊢
              exact ⟨trivial, hK _ _ hw⟩
          rw [if_neg hc6] at hw
          have hd : (x1).toInt < 0 ∨ 6 < (x1).toInt := by
            have g0 := am_ine hc0
            have g1 := am_ine hc1
            have g2 := am_ine hc2
            have g3 := am_ine hc3
            have g4 := am_ine hc4
            have g5 := am_ine hc5
            have g6 := am_ine hc6
            change (x1).toInt ≠ 0 at g0
            change (x1).toInt ≠ 1 at g1
            change (x1).toInt ≠ 2 at g2
            change (x1).toInt ≠ 3 at g3
            change (x1).toInt ≠ 4 at g4
            change (x1).toInt ≠ 5 at g5
            change (x1).toInt ≠ 6 at g6
            omega
          refine am_E.go (show (if (x1).toInt < 0 ∨ 6 < (x1).toInt then (am_E S 107 (d + 5) 0 0 236 [.ref 0, .int x0, .int x1, .int x2, .int 5, .null] [] (N, am_ts T, I, L, am_rs r) Q) else _) from ?_)
          rw [if_pos hd]
          refine am_E.run [] 2000 (show (True ∧ Q (some (.int (-1))) (N, am_ts T, I, L, am_rs r)) from ?_)
          exact ⟨trivial, hK _ _ hw⟩
        | some t32 =>
          replace hw := hw.2 t32 hx
          refine am_E.run [53] 2000 (show (am_E S 107 (d + 5) 0 0 53 [.ref 0, .int x0, .int x1, .int x2, .int 5, .ref t32] [.int x1] (N, am_ts T, I, L, am_rs r) Q) from ?_)
          by_cases hc0 : x1 = 0
          · rw [if_pos hc0] at hw
            refine am_E.swap (k := 0) hc0 ?_
            refine am_E.go (show (am_E S 107 (d + 5) 0 0 96 [.ref 0, .int x0, .int x1, .int x2, .int 5, .ref t32] [] (N, am_ts T, I, L, am_rs r) Q) from ?_)
            refine am_E.run [109] 2000 (show (am_E S 107 (d + 5) 0 0 109 [.ref 0, .int x0, .int x1, .int x2, .int 5, .ref t32] [.int 0, .int x2, .int x0, .ref t32, .ref 1, .ref 23] (N, am_ts T, I, L, am_rs r) Q) from ?_)
            refine am_E.go ⟨am_ki_I N T L r _, s_109s hw (fun q47 I48 hk => ⟨q47, I48, rfl, rfl, hk⟩), ?_⟩
            intro v h9 hv
            obtain ⟨q47, I48, rfl, rfl, hw⟩ := hv
            try dsimp only at hw
            refine am_E.run [] 2000 (show (True ∧ Q (some (.int q47)) (N, am_ts T, I48, L, am_rs r)) from ?_)
            exact ⟨trivial, hK _ _ hw⟩
          rw [if_neg hc0] at hw
          by_cases hc1 : x1 = 1
          · rw [if_pos hc1] at hw
            refine am_E.swap (k := 1) hc1 ?_
            refine am_E.go (show (am_E S 107 (d + 5) 0 0 113 [.ref 0, .int x0, .int x1, .int x2, .int 5, .ref t32] [] (N, am_ts T, I, L, am_rs r) Q) from ?_)
            refine am_E.run [126] 2000 (show (am_E S 107 (d + 5) 0 0 126 [.ref 0, .int x0, .int x1, .int x2, .int 5, .ref t32] [.int 1, .int x2, .int x0, .ref t32, .ref 1, .ref 23] (N, am_ts T, I, L, am_rs r) Q) from ?_)
            refine am_E.go ⟨am_ki_I N T L r _, s_109s hw (fun q49 I50 hk => ⟨q49, I50, rfl, rfl, hk⟩), ?_⟩
            intro v h9 hv
            obtain ⟨q49, I50, rfl, rfl, hw⟩ := hv
            try dsimp only at hw
            refine am_E.run [] 2000 (show (True ∧ Q (some (.int q49)) (N, am_ts T, I50, L, am_rs r)) from ?_)
            exact ⟨trivial, hK _ _ hw⟩
          rw [if_neg hc1] at hw
          by_cases hc2 : x1 = 2
          · rw [if_pos hc2] at hw
            refine am_E.swap (k := 2) hc2 ?_
            refine am_E.go (show (am_E S 107 (d + 5) 0 0 130 [.ref 0, .int x0, .int x1, .int x2, .int 5, .ref t32] [] (N, am_ts T, I, L, am_rs r) Q) from ?_)
            refine am_E.run [143] 2000 (show (am_E S 107 (d + 5) 0 0 143 [.ref 0, .int x0, .int x1, .int x2, .int 5, .ref t32] [.int 0, .int x2, .int x0, .ref t32, .ref 1, .ref 23] (N, am_ts T, I, L, am_rs r) Q) from ?_)
            refine am_E.go ⟨am_ki_I N T L r _, s_113s hw (fun q51 I52 hk => ⟨q51, I52, rfl, rfl, hk⟩), ?_⟩
            intro v h9 hv
            obtain ⟨q51, I52, rfl, rfl, hw⟩ := hv
            try dsimp only at hw
            refine am_E.run [] 2000 (show (if q51 = 0 then (True ∧ Q (some (.int 0)) (N, am_ts T, I52, L, am_rs r)) else (True ∧ Q (some (.int 1)) (N, am_ts T, I52, L, am_rs r))) from ?_)
            by_cases hc : q51 = 0
            · rw [if_pos hc] at hw ⊢
              exact ⟨trivial, hK _ _ hw⟩
            · rw [if_neg hc] at hw ⊢
              exact ⟨trivial, hK _ _ hw⟩
          rw [if_neg hc2] at hw
          by_cases hc3 : x1 = 3
          · rw [if_pos hc3] at hw
            refine am_E.swap (k := 3) hc3 ?_
            refine am_E.go (show (am_E S 107 (d + 5) 0 0 155 [.ref 0, .int x0, .int x1, .int x2, .int 5, .ref t32] [] (N, am_ts T, I, L, am_rs r) Q) from ?_)
            refine am_E.run [168] 2000 (show (am_E S 107 (d + 5) 0 0 168 [.ref 0, .int x0, .int x1, .int x2, .int 5, .ref t32] [.int 1, .int x2, .int x0, .ref t32, .ref 1, .ref 23] (N, am_ts T, I, L, am_rs r) Q) from ?_)
            refine am_E.go ⟨am_ki_I N T L r _, s_113s hw (fun q53 I54 hk => ⟨q53, I54, rfl, rfl, hk⟩), ?_⟩
            intro v h9 hv
            obtain ⟨q53, I54, rfl, rfl, hw⟩ := hv
            try dsimp only at hw
            refine am_E.run [] 2000 (show (if q53 = 0 then (True ∧ Q (some (.int 0)) (N, am_ts T, I54, L, am_rs r)) else (True ∧ Q (some (.int 1)) (N, am_ts T, I54, L, am_rs r))) from ?_)
            by_cases hc : q53 = 0
            · rw [if_pos hc] at hw ⊢
              exact ⟨trivial, hK _ _ hw⟩
            · rw [if_neg hc] at hw ⊢
              exact ⟨trivial, hK _ _ hw⟩
          rw [if_neg hc3] at hw
          by_cases hc4 : x1 = 4
          · rw [if_pos hc4] at hw
            refine am_E.swap (k := 4) hc4 ?_
            refine am_E.go (show (am_E S 107 (d + 5) 0 0 180 [.ref 0, .int x0, .int x1, .int x2, .int 5, .ref t32] [] (N, am_ts T, I, L, am_rs r) Q) from ?_)
            refine am_E.run [192] 2000 (show (am_E S 107 (d + 5) 0 0 192 [.ref 0, .int x0, .int x1, .int x2, .int 5, .ref t32] [.int x2, .int x0, .ref t32, .ref 1, .ref 23] (N, am_ts T, I, L, am_rs r) Q) from ?_)
            refine am_E.go ⟨am_ki_I N T L r _, s_114s hw (fun q55 I56 hk => ⟨q55, I56, rfl, rfl, hk⟩), ?_⟩
            intro v h9 hv
            obtain ⟨q55, I56, rfl, rfl, hw⟩ := hv
            try dsimp only at hw
            refine am_E.run [] 2000 (show (True ∧ Q (some (.int q55)) (N, am_ts T, I56, L, am_rs r)) from ?_)
            exact ⟨trivial, hK _ _ hw⟩
          rw [if_neg hc4] at hw
          by_cases hc5 : x1 = 5
          · rw [if_pos hc5] at hw
            refine am_E.swap (k := 5) hc5 ?_
            refine am_E.go (show (am_E S 107 (d + 5) 0 0 196 [.ref 0, .int x0, .int x1, .int x2, .int 5, .ref t32] [] (N, am_ts T, I, L, am_rs r) Q) from ?_)
            refine am_E.run [208] 2000 (show (am_E S 107 (d + 5) 0 0 208 [.ref 0, .int x0, .int x1, .int x2, .int 5, .ref t32] [.int x2, .int x0, .ref t32, .ref 1, .ref 23] (N, am_ts T, I, L, am_rs r) Q) from ?_)
            refine am_E.go ⟨am_ki_I N T L r _, s_115s hw (fun q57 I58 hk => ⟨q57, I58, rfl, rfl, hk⟩), ?_⟩
            intro v h9 hv
            obtain ⟨q57, I58, rfl, rfl, hw⟩ := hv
            try dsimp only at hw
            refine am_E.run [] 2000 (show (True ∧ Q (some (.int q57)) (N, am_ts T, I58, L, am_rs r)) from ?_)
            exact ⟨trivial, hK _ _ hw⟩
          rw [if_neg hc5] at hw
          by_cases hc6 : x1 = 6
          · rw [if_pos hc6] at hw
            refine am_E.swap (k := 6) hc6 ?_
            refine am_E.go (show (am_E S 107 (d + 5) 0 0 212 [.ref 0, .int x0, .int x1, .int x2, .int 5, .ref t32] [] (N, am_ts T, I, L, am_rs r) Q) from ?_)
            refine am_E.run [224] 2000 (show (am_E S 107 (d + 5) 0 0 224 [.ref 0, .int x0, .int x1, .int x2, .int 5, .ref t32] [.int x2, .int x0, .ref t32, .ref 1, .ref 23] (N, am_ts T, I, L, am_rs r) Q) from ?_)
            refine am_E.go ⟨am_ki_I N T L r _, s_116s hw (fun q59 I60 hk => ⟨q59, I60, rfl, rfl, hk⟩), ?_⟩
            intro v h9 hv
            obtain ⟨q59, I60, rfl, rfl, hw⟩ := hv
            try dsimp only at hw
            refine am_E.run [] 2000 (show (if q59 = 0 then (True ∧ Q (some (.int 0)) (N, am_ts T, I60, L, am_rs r)) else (True ∧ Q (some (.int 1)) (N, am_ts T, I60, L, am_rs r))) from ?_)
            by_cases hc : q59 = 0
            · rw [if_pos hc] at hw ⊢
              exact ⟨trivial, hK _ _ hw⟩
            · rw [if_neg hc] at hw ⊢
              exact ⟨trivial, hK _ _ hw⟩
          rw [if_neg hc6] at hw
          have hd : (x1).toInt < 0 ∨ 6 < (x1).toInt := by
            have g0 := am_ine hc0
            have g1 := am_ine hc1
            have g2 := am_ine hc2
            have g3 := am_ine hc3
            have g4 := am_ine hc4
            have g5 := am_ine hc5
            have g6 := am_ine hc6
            change (x1).toInt ≠ 0 at g0
            change (x1).toInt ≠ 1 at g1
            change (x1).toInt ≠ 2 at g2
            change (x1).toInt ≠ 3 at g3
            change (x1).toInt ≠ 4 at g4
            change (x1).toInt ≠ 5 at g5
            change (x1).toInt ≠ 6 at g6
            omega
          refine am_E.go (show (if (x1).toInt < 0 ∨ 6 < (x1).toInt then (am_E S 107 (d + 5) 0 0 236 [.ref 0, .int x0, .int x1, .int x2, .int 5, .ref t32] [] (N, am_ts T, I, L, am_rs r) Q) else _) from ?_)
          rw [if_pos hd]
          refine am_E.run [] 2000 (show (True ∧ Q (some (.int (-1))) (N, am_ts T, I, L, am_rs r)) from ?_)
          exact ⟨trivial, hK _ _ hw⟩
