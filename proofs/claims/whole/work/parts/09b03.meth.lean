def lw_70_4 (W : Nat → Int32 → am_I → (Int32 → am_I → Prop) → Prop) : Nat → Int32 → Int32 → Int32 → am_I → (Int32 → Int32 → am_I → Prop) → Prop
  | 0, _, _, _, _, _ => False
  | n + 1, v1, v2, v3, I, E0 =>
    if (400 : Int32) ≤ v3 then
      E0 v2 v3 I
    else
      w_62 1000015 I (fun q1 I2 =>
        if q1 = 0 then
          E0 v2 v3 I2
        else
          lw_70_4 W n v1 (v2 + 1) (v3 + 1) I2 E0)
set_option maxRecDepth 100000 in
theorem sl_70_4 {W : Nat → Int32 → am_I → (Int32 → am_I → Prop) → Prop} {S : am_S} {d : Nat} {Q : am_Q} {N : Nat} {T : Nat → Nat × Nat} {L : am_J} {r : Nat → Nat → Option Nat} {E0 : Int32 → Int32 → am_I → Prop} (hW59 : ∀ (N : Nat) (T : Nat → Nat × Nat) (L : am_J) (r : Nat → Nat → Option Nat) (o : Int32) (I : am_I) (K : Int32 → am_I → Prop) (Q : am_Q), W 59 o I K → (∀ q I, K q I → Q (some (.int q)) (N, am_ts T, I, L, am_rs r)) → am_E S 59 (d + 3) 0 0 0 [.ref 14, .int o, am_jk, am_jk] [] (N, am_ts T, I, L, am_rs r) Q) (hW60 : ∀ (N : Nat) (T : Nat → Nat × Nat) (L : am_J) (r : Nat → Nat → Option Nat) (o : Int32) (I : am_I) (K : Int32 → am_I → Prop) (Q : am_Q), W 60 o I K → (∀ q I, K q I → Q (some (.int q)) (N, am_ts T, I, L, am_rs r)) → am_E S 60 (d + 3) 0 0 0 [.ref 14, .int o, am_jk, am_jk] [] (N, am_ts T, I, L, am_rs r) Q) (hW61 : ∀ (N : Nat) (T : Nat → Nat × Nat) (L : am_J) (r : Nat → Nat → Option Nat) (o : Int32) (I : am_I) (K : Int32 → am_I → Prop) (Q : am_Q), W 61 o I K → (∀ q I, K q I → Q (some (.int q)) (N, am_ts T, I, L, am_rs r)) → am_E S 61 (d + 3) 0 0 0 [.ref 14, .int o, am_jk] [] (N, am_ts T, I, L, am_rs r) Q) (hW68 : ∀ (N : Nat) (T : Nat → Nat × Nat) (L : am_J) (r : Nat → Nat → Option Nat) (o : Int32) (I : am_I) (K : Int32 → am_I → Prop) (Q : am_Q), W 68 o I K → (∀ q I, K q I → Q (some (.int q)) (N, am_ts T, I, L, am_rs r)) → am_E S 68 (d + 3) 0 0 0 [.ref 14, .int o, am_jk, am_jk] [] (N, am_ts T, I, L, am_rs r) Q) (hW69 : ∀ (N : Nat) (T : Nat → Nat × Nat) (L : am_J) (r : Nat → Nat → Option Nat) (o : Int32) (I : am_I) (K : Int32 → am_I → Prop) (Q : am_Q), W 69 o I K → (∀ q I, K q I → Q (some (.int q)) (N, am_ts T, I, L, am_rs r)) → am_E S 69 (d + 3) 0 0 0 [.ref 14, .int o, am_jk, am_jk] [] (N, am_ts T, I, L, am_rs r) Q) (hW70 : ∀ (N : Nat) (T : Nat → Nat × Nat) (L : am_J) (r : Nat → Nat → Option Nat) (o : Int32) (I : am_I) (K : Int32 → am_I → Prop) (Q : am_Q), W 70 o I K → (∀ q I, K q I → Q (some (.int q)) (N, am_ts T, I, L, am_rs r)) → am_E S 70 (d + 3) 0 0 0 [.ref 14, .int o, am_jk, am_jk] [] (N, am_ts T, I, L, am_rs r) Q) : ∀ (n : Nat) {v1 : Int32} {v2 : Int32} {v3 : Int32} {I : am_I}, lw_70_4 W n v1 v2 v3 I E0 → (∀ (o2 : Int32) (o3 : Int32) (I1 : am_I), E0 o2 o3 I1 → am_E S 70 (d + 4) 0 0 29 [.ref 14, .int v1, .int o2, .int o3] [] (N, am_ts T, I1, L, am_rs r) Q) → am_E S 70 (d + 4) 0 0 4 [.ref 14, .int v1, .int v2, .int v3] [] (N, am_ts T, I, L, am_rs r) Q
  | 0, _, _, _, _, hw, _ => hw.elim
  | n + 1, v1, v2, v3, I, hw, hE0 => by
    have ih := @sl_70_4 W S d Q N T L r E0 hW59 hW60 hW61 hW68 hW69 hW70 n
    unfold lw_70_4 at hw
    try dsimp only at hw
    refine am_E.run [14, 29] 2000 (show (if (400 : Int32) ≤ v3 then (am_E S 70 (d + 4) 0 0 29 [.ref 14, .int v1, .int v2, .int v3] [] (N, am_ts T, I, L, am_rs r) Q) else (am_E S 70 (d + 4) 0 0 14 [.ref 14, .int v1, .int v2, .int v3] [.int 1000015, .ref 14] (N, am_ts T, I, L, am_rs r) Q)) from ?_)
    by_cases hc : (400 : Int32) ≤ v3
    · rw [if_pos hc] at hw ⊢
      exact hE0 _ _ _ hw
    · rw [if_neg hc] at hw ⊢
      refine am_E.go ⟨am_ki_I N T L r _, s_62 hw (fun q1 I2 hk => ⟨q1, I2, rfl, rfl, hk⟩), ?_⟩
      intro v h9 hv
      obtain ⟨q1, I2, rfl, rfl, hw⟩ := hv
      try dsimp only at hw
      refine am_E.run [4, 29] 2000 (show (if q1 = 0 then (am_E S 70 (d + 4) 0 0 29 [.ref 14, .int v1, .int v2, .int v3] [] (N, am_ts T, I2, L, am_rs r) Q) else (am_E S 70 (d + 4) 0 0 4 [.ref 14, .int v1, .int (v2 + 1), .int (v3 + 1)] [] (N, am_ts T, I2, L, am_rs r) Q)) from ?_)
      by_cases hc : q1 = 0
      · rw [if_pos hc] at hw ⊢
        exact hE0 _ _ _ hw
      · rw [if_neg hc] at hw ⊢
        exact ih hw hE0
/-- KeyKeepers$Reader.readPlain(I)Z -/
def w_70 (W : Nat → Int32 → am_I → (Int32 → am_I → Prop) → Prop) (x0 : Int32) (I : am_I) (K : Int32 → am_I → Prop) : Prop :=
  ∃ n4, lw_70_4 W n4 x0 0 0 I (fun o3 o4 I5 =>
    if (I5 14 8) = 2000040 then
      if x0 < 8 then
        w_58 I5 (fun I15 =>
          W 68 (x0 + 1) I15 (fun q16 I17 =>
            if q16 = 0 then
              K 0 I17
            else
              w_62 2000041 I17 (fun q18 I19 =>
                if q18 = 0 then
                  K 0 I19
                else
                  if (o3 - o3 / 2 * 2) = 1 then
                    w_64 12 0 I19 (fun q20 I21 =>
                      K 1 I21)
                  else
                    K 1 I19)))
      else
        K 0 I5
    else
      W 59 x0 I5 (fun q6 I7 =>
        if q6 = 0 then
          K 0 I7
        else
          if (f_13 (f_66 I7) 9 11) = 0 then
            K 0 I7
          else
            w_58 I7 (fun I8 =>
              W 59 x0 I8 (fun q9 I10 =>
                if q9 = 0 then
                  K 0 I10
                else
                  w_64 (f_66 I7) 0 I10 (fun q11 I12 =>
                    if (o3 - o3 / 2 * 2) = 1 then
                      w_64 12 0 I12 (fun q13 I14 =>
                        K 1 I14)
                    else
                      K 1 I12)))))
set_option maxRecDepth 100000 in
theorem s_70 {W : Nat → Int32 → am_I → (Int32 → am_I → Prop) → Prop} {S : am_S} {d : Nat} {N : Nat} {T : Nat → Nat × Nat} {I : am_I} {L : am_J} {r : Nat → Nat → Option Nat} {Q : am_Q} {x0 : Int32} {K : Int32 → am_I → Prop} (hw : w_70 W x0 I K) (hW59 : ∀ (N : Nat) (T : Nat → Nat × Nat) (L : am_J) (r : Nat → Nat → Option Nat) (o : Int32) (I : am_I) (K : Int32 → am_I → Prop) (Q : am_Q), W 59 o I K → (∀ q I, K q I → Q (some (.int q)) (N, am_ts T, I, L, am_rs r)) → am_E S 59 (d + 3) 0 0 0 [.ref 14, .int o, am_jk, am_jk] [] (N, am_ts T, I, L, am_rs r) Q) (hW60 : ∀ (N : Nat) (T : Nat → Nat × Nat) (L : am_J) (r : Nat → Nat → Option Nat) (o : Int32) (I : am_I) (K : Int32 → am_I → Prop) (Q : am_Q), W 60 o I K → (∀ q I, K q I → Q (some (.int q)) (N, am_ts T, I, L, am_rs r)) → am_E S 60 (d + 3) 0 0 0 [.ref 14, .int o, am_jk, am_jk] [] (N, am_ts T, I, L, am_rs r) Q) (hW61 : ∀ (N : Nat) (T : Nat → Nat × Nat) (L : am_J) (r : Nat → Nat → Option Nat) (o : Int32) (I : am_I) (K : Int32 → am_I → Prop) (Q : am_Q), W 61 o I K → (∀ q I, K q I → Q (some (.int q)) (N, am_ts T, I, L, am_rs r)) → am_E S 61 (d + 3) 0 0 0 [.ref 14, .int o, am_jk] [] (N, am_ts T, I, L, am_rs r) Q) (hW68 : ∀ (N : Nat) (T : Nat → Nat × Nat) (L : am_J) (r : Nat → Nat → Option Nat) (o : Int32) (I : am_I) (K : Int32 → am_I → Prop) (Q : am_Q), W 68 o I K → (∀ q I, K q I → Q (some (.int q)) (N, am_ts T, I, L, am_rs r)) → am_E S 68 (d + 3) 0 0 0 [.ref 14, .int o, am_jk, am_jk] [] (N, am_ts T, I, L, am_rs r) Q) (hW69 : ∀ (N : Nat) (T : Nat → Nat × Nat) (L : am_J) (r : Nat → Nat → Option Nat) (o : Int32) (I : am_I) (K : Int32 → am_I → Prop) (Q : am_Q), W 69 o I K → (∀ q I, K q I → Q (some (.int q)) (N, am_ts T, I, L, am_rs r)) → am_E S 69 (d + 3) 0 0 0 [.ref 14, .int o, am_jk, am_jk] [] (N, am_ts T, I, L, am_rs r) Q) (hW70 : ∀ (N : Nat) (T : Nat → Nat × Nat) (L : am_J) (r : Nat → Nat → Option Nat) (o : Int32) (I : am_I) (K : Int32 → am_I → Prop) (Q : am_Q), W 70 o I K → (∀ q I, K q I → Q (some (.int q)) (N, am_ts T, I, L, am_rs r)) → am_E S 70 (d + 3) 0 0 0 [.ref 14, .int o, am_jk, am_jk] [] (N, am_ts T, I, L, am_rs r) Q) (hK : ∀ (q : Int32) (I1 : am_I), K q I1 → Q (some (.int q)) (N, am_ts T, I1, L, am_rs r)) : am_E S 70 (d + 4) 0 0 0 [.ref 14, .int x0, am_jk, am_jk] [] (N, am_ts T, I, L, am_rs r) Q := by
  unfold w_70 at hw
  try dsimp only at hw
  refine am_E.run [4] 2000 (show (am_E S 70 (d + 4) 0 0 4 [.ref 14, .int x0, .int 0, .int 0] [] (N, am_ts T, I, L, am_rs r) Q) from ?_)
  obtain ⟨n4, hw⟩ := hw
  refine sl_70_4 hW59 hW60 hW61 hW68 hW69 hW70 n4 hw (fun o3 o4 I5 hw => ?_)
  · try dsimp only at hw
    refine am_E.run [47, 73] 2000 (show (if (I5 14 8) = 2000040 then (if x0 < 8 then (am_E S 70 (d + 4) 0 0 47 [.ref 14, .int x0, .int o3, .int o4] [.ref 14] (N, am_ts T, I5, L, am_rs r) Q) else (((0 : Int32) = 0 ∨ (0 : Int32) = 1) ∧ Q (some (.int 0)) (N, am_ts T, I5, L, am_rs r))) else (am_E S 70 (d + 4) 0 0 73 [.ref 14, .int x0, .int o3, .int o4] [.int x0, .ref 14] (N, am_ts T, I5, L, am_rs r) Q)) from ?_)
    by_cases hc : (I5 14 8) = 2000040
    · rw [if_pos hc] at hw ⊢
      by_cases hc : x0 < 8
      · rw [if_pos hc] at hw ⊢
        refine am_E.go ⟨am_kv_I N T L r _, s_58 hw (fun I15 hk => ⟨I15, rfl, rfl, hk⟩), ?_⟩
        intro v h9 hv
        obtain ⟨I15, rfl, rfl, hw⟩ := hv
        try dsimp only at hw
        refine am_E.run [54] 2000 (show (am_E S 70 (d + 4) 0 0 54 [.ref 14, .int x0, .int o3, .int o4] [.int (x0 + 1), .ref 14] (N, am_ts T, I15, L, am_rs r) Q) from ?_)
        refine am_E.go ⟨am_ki_I N T L r _, hW68 _ _ _ _ _ _ _ _ hw (fun q16 I17 hk => ⟨q16, I17, rfl, rfl, hk⟩), ?_⟩
        intro v h9 hv
        obtain ⟨q16, I17, rfl, rfl, hw⟩ := hv
        try dsimp only at hw
        refine am_E.run [63] 2000 (show (if q16 = 0 then (((0 : Int32) = 0 ∨ (0 : Int32) = 1) ∧ Q (some (.int 0)) (N, am_ts T, I17, L, am_rs r)) else (am_E S 70 (d + 4) 0 0 63 [.ref 14, .int x0, .int o3, .int o4] [.int 2000041, .ref 14] (N, am_ts T, I17, L, am_rs r) Q)) from ?_)
        by_cases hc : q16 = 0
        · rw [if_pos hc] at hw ⊢
          exact ⟨Or.inl rfl, hK _ _ hw⟩
        · rw [if_neg hc] at hw ⊢
          refine am_E.go ⟨am_ki_I N T L r _, s_62 hw (fun q18 I19 hk => ⟨q18, I19, rfl, rfl, hk⟩), ?_⟩
          intro v h9 hv
          obtain ⟨q18, I19, rfl, rfl, hw⟩ := hv
          try dsimp only at hw
          refine am_E.run [137] 2000 (show (if q18 = 0 then (((0 : Int32) = 0 ∨ (0 : Int32) = 1) ∧ Q (some (.int 0)) (N, am_ts T, I19, L, am_rs r)) else (if (o3 - o3 / 2 * 2) = 1 then (am_E S 70 (d + 4) 0 0 137 [.ref 14, .int x0, .int o3, .int o4] [.int 0, .int 12, .ref 16] (N, am_ts T, I19, L, am_rs r) Q) else (((1 : Int32) = 0 ∨ (1 : Int32) = 1) ∧ Q (some (.int 1)) (N, am_ts T, I19, L, am_rs r)))) from ?_)
          by_cases hc : q18 = 0
          · rw [if_pos hc] at hw ⊢
            exact ⟨Or.inl rfl, hK _ _ hw⟩
          · rw [if_neg hc] at hw ⊢
            by_cases hc : (o3 - o3 / 2 * 2) = 1
            · rw [if_pos hc] at hw ⊢
              refine am_E.go ⟨am_ki_I N T L r _, s_64 hw (fun q20 I21 hk => ⟨q20, I21, rfl, rfl, hk⟩), ?_⟩
              intro v h9 hv
              obtain ⟨q20, I21, rfl, rfl, hw⟩ := hv
              try dsimp only at hw
              refine am_E.run [] 2000 (show (((1 : Int32) = 0 ∨ (1 : Int32) = 1) ∧ Q (some (.int 1)) (N, am_ts T, I21, L, am_rs r)) from ?_)
              exact ⟨Or.inr rfl, hK _ _ hw⟩
            · rw [if_neg hc] at hw ⊢
              exact ⟨Or.inr rfl, hK _ _ hw⟩
      · rw [if_neg hc] at hw ⊢
        exact ⟨Or.inl rfl, hK _ _ hw⟩
    · rw [if_neg hc] at hw ⊢
      refine am_E.go ⟨am_ki_I N T L r _, hW59 _ _ _ _ _ _ _ _ hw (fun q6 I7 hk => ⟨q6, I7, rfl, rfl, hk⟩), ?_⟩
      intro v h9 hv
      obtain ⟨q6, I7, rfl, rfl, hw⟩ := hv
      try dsimp only at hw
      refine am_E.run [82] 2000 (show (if q6 = 0 then (((0 : Int32) = 0 ∨ (0 : Int32) = 1) ∧ Q (some (.int 0)) (N, am_ts T, I7, L, am_rs r)) else (am_E S 70 (d + 4) 0 0 82 [.ref 14, .int x0, .int o3, .int o4] [.ref 14] (N, am_ts T, I7, L, am_rs r) Q)) from ?_)
      by_cases hc : q6 = 0
      · rw [if_pos hc] at hw ⊢
        exact ⟨Or.inl rfl, hK _ _ hw⟩
      · rw [if_neg hc] at hw ⊢
        refine am_E.go ⟨fun v h9 => v = some (.int (f_66 I7)) ∧ h9 = (N, am_ts T, I7, L, am_rs r), s_66 ⟨rfl, rfl⟩, ?_⟩
        intro v h9 hv
        obtain ⟨rfl, rfl⟩ := hv
        refine am_E.run [91] 2000 (show (am_E S 70 (d + 4) 0 0 91 [.ref 14, .int x0, .int o3, .int (f_66 I7)] [.int 11, .int 9, .int (f_66 I7)] (N, am_ts T, I7, L, am_rs r) Q) from ?_)
        refine am_E.go ⟨fun v h9 => v = some (.int (f_13 (f_66 I7) 9 11)) ∧ h9 = (N, am_ts T, I7, L, am_rs r), s_13 ⟨rfl, rfl⟩, ?_⟩
        intro v h9 hv
        obtain ⟨rfl, rfl⟩ := hv
        refine am_E.run [100] 2000 (show (if (f_13 (f_66 I7) 9 11) = 0 then (((0 : Int32) = 0 ∨ (0 : Int32) = 1) ∧ Q (some (.int 0)) (N, am_ts T, I7, L, am_rs r)) else (am_E S 70 (d + 4) 0 0 100 [.ref 14, .int x0, .int o3, .int (f_66 I7)] [.ref 14] (N, am_ts T, I7, L, am_rs r) Q)) from ?_)
        by_cases hc : (f_13 (f_66 I7) 9 11) = 0
        · rw [if_pos hc] at hw ⊢
          exact ⟨Or.inl rfl, hK _ _ hw⟩
        · rw [if_neg hc] at hw ⊢
          refine am_E.go ⟨am_kv_I N T L r _, s_58 hw (fun I8 hk => ⟨I8, rfl, rfl, hk⟩), ?_⟩
          intro v h9 hv
          obtain ⟨I8, rfl, rfl, hw⟩ := hv
          try dsimp only at hw
          refine am_E.run [105] 2000 (show (am_E S 70 (d + 4) 0 0 105 [.ref 14, .int x0, .int o3, .int (f_66 I7)] [.int x0, .ref 14] (N, am_ts T, I8, L, am_rs r) Q) from ?_)
          refine am_E.go ⟨am_ki_I N T L r _, hW59 _ _ _ _ _ _ _ _ hw (fun q9 I10 hk => ⟨q9, I10, rfl, rfl, hk⟩), ?_⟩
          intro v h9 hv
          obtain ⟨q9, I10, rfl, rfl, hw⟩ := hv
          try dsimp only at hw
          refine am_E.run [119] 2000 (show (if q9 = 0 then (((0 : Int32) = 0 ∨ (0 : Int32) = 1) ∧ Q (some (.int 0)) (N, am_ts T, I10, L, am_rs r)) else (am_E S 70 (d + 4) 0 0 119 [.ref 14, .int x0, .int o3, .int (f_66 I7)] [.int 0, .int (f_66 I7), .ref 16] (N, am_ts T, I10, L, am_rs r) Q)) from ?_)
          by_cases hc : q9 = 0
          · rw [if_pos hc] at hw ⊢
            exact ⟨Or.inl rfl, hK _ _ hw⟩
          · rw [if_neg hc] at hw ⊢
            refine am_E.go ⟨am_ki_I N T L r _, s_64 hw (fun q11 I12 hk => ⟨q11, I12, rfl, rfl, hk⟩), ?_⟩
            intro v h9 hv
            obtain ⟨q11, I12, rfl, rfl, hw⟩ := hv
            try dsimp only at hw
            refine am_E.run [137] 2000 (show (if (o3 - o3 / 2 * 2) = 1 then (am_E S 70 (d + 4) 0 0 137 [.ref 14, .int x0, .int o3, .int (f_66 I7)] [.int 0, .int 12, .ref 16] (N, am_ts T, I12, L, am_rs r) Q) else (((1 : Int32) = 0 ∨ (1 : Int32) = 1) ∧ Q (some (.int 1)) (N, am_ts T, I12, L, am_rs r))) from ?_)
            by_cases hc : (o3 - o3 / 2 * 2) = 1
            · rw [if_pos hc] at hw ⊢
              refine am_E.go ⟨am_ki_I N T L r _, s_64 hw (fun q13 I14 hk => ⟨q13, I14, rfl, rfl, hk⟩), ?_⟩
              intro v h9 hv
              obtain ⟨q13, I14, rfl, rfl, hw⟩ := hv
              try dsimp only at hw
              refine am_E.run [] 2000 (show (((1 : Int32) = 0 ∨ (1 : Int32) = 1) ∧ Q (some (.int 1)) (N, am_ts T, I14, L, am_rs r)) from ?_)
              exact ⟨Or.inr rfl, hK _ _ hw⟩
            · rw [if_neg hc] at hw ⊢
              exact ⟨Or.inr rfl, hK _ _ hw⟩
/-- KeyKeepers$Text.landHere(II)V -/
def w_71 (x0 : Int32) (x1 : Int32) (I : am_I) (K : am_I → Prop) : Prop :=
  if x0 < 0 then
    K I
  else
    if (I 16 1) ≤ x0 then
      K I
    else
      ¬ (x0 < 0 ∨ 400 ≤ Int32.toNatClampNeg x0) ∧
      K (am_u I 17 (Int32.toNatClampNeg x0) (x1 + (16 * (I 16 1))))
set_option maxRecDepth 100000 in
theorem s_71 {S : am_S} {d : Nat} {N : Nat} {T : Nat → Nat × Nat} {I : am_I} {L : am_J} {r : Nat → Nat → Option Nat} {Q : am_Q} {x0 : Int32} {x1 : Int32} {K : am_I → Prop} (hw : w_71 x0 x1 I K) (hK : ∀ (I1 : am_I), K I1 → Q (none) (N, am_ts T, I1, L, am_rs r)) : am_E S 71 (d + 0) 0 0 0 [.ref 16, .int x0, .int x1] [] (N, am_ts T, I, L, am_rs r) Q := by
  unfold w_71 at hw
  try dsimp only at hw
  refine am_E.run [] 2000 (show (if x0 < 0 then (True ∧ Q (none) (N, am_ts T, I, L, am_rs r)) else (if (I 16 1) ≤ x0 then (True ∧ Q (none) (N, am_ts T, I, L, am_rs r)) else (if x0 < 0 ∨ 400 ≤ Int32.toNatClampNeg x0 then False else (True ∧ Q (none) (N, am_ts T, (am_u I 17 (Int32.toNatClampNeg x0) (x1 + (16 * (I 16 1)))), L, am_rs r))))) from ?_)
  by_cases hc : x0 < 0
  · rw [if_pos hc] at hw ⊢
    exact ⟨trivial, hK _ hw⟩
  · rw [if_neg hc] at hw ⊢
    by_cases hc : (I 16 1) ≤ x0
    · rw [if_pos hc] at hw ⊢
      exact ⟨trivial, hK _ hw⟩
    · rw [if_neg hc] at hw ⊢
      refine am_ifn hw.1 ?_
      replace hw := hw.2
      exact ⟨trivial, hK _ hw⟩
/-- KeyKeepers$Text.setTimes(I)V -/
def w_75 (x0 : Int32) (I : am_I) (K : am_I → Prop) : Prop :=
  if (I 16 2) ≤ 0 then
    K I
  else
    ¬ (((I 16 2) - 1) < 0 ∨ 12 ≤ Int32.toNatClampNeg ((I 16 2) - 1)) ∧
    K (am_u I 19 (Int32.toNatClampNeg ((I 16 2) - 1)) x0)
set_option maxRecDepth 100000 in
theorem s_75 {S : am_S} {d : Nat} {N : Nat} {T : Nat → Nat × Nat} {I : am_I} {L : am_J} {r : Nat → Nat → Option Nat} {Q : am_Q} {x0 : Int32} {K : am_I → Prop} (hw : w_75 x0 I K) (hK : ∀ (I1 : am_I), K I1 → Q (none) (N, am_ts T, I1, L, am_rs r)) : am_E S 75 (d + 0) 0 0 0 [.ref 16, .int x0] [] (N, am_ts T, I, L, am_rs r) Q := by
  unfold w_75 at hw
  try dsimp only at hw
  refine am_E.run [] 2000 (show (if (I 16 2) ≤ 0 then (True ∧ Q (none) (N, am_ts T, I, L, am_rs r)) else (if ((I 16 2) - 1) < 0 ∨ 12 ≤ Int32.toNatClampNeg ((I 16 2) - 1) then False else (True ∧ Q (none) (N, am_ts T, (am_u I 19 (Int32.toNatClampNeg ((I 16 2) - 1)) x0), L, am_rs r)))) from ?_)
  by_cases hc : (I 16 2) ≤ 0
  · rw [if_pos hc] at hw ⊢
    exact ⟨trivial, hK _ hw⟩
  · rw [if_neg hc] at hw ⊢
    refine am_ifn hw.1 ?_
    replace hw := hw.2
    exact ⟨trivial, hK _ hw⟩
/-- KeyKeepers$Text.trimmed()LKeyKeepers$Text; -/
def w_76 (N : Nat) (T : Nat → Nat × Nat) (r : Nat → Nat → Option Nat) (I : am_I) (L : am_J) (K : Option Nat → Nat → (Nat → Nat × Nat) → (Nat → Nat → Option Nat) → am_I → am_J → Prop) : Prop :=
  99 ≤ N ∧ 
  ((am_ts (am_tn T N 11 0) N).1 = 11) ∧
  w_3 N ((am_z I N 0) 16 1) ((am_z I N 0) 16 2) (N + 1) (am_tn T N 11 0) (am_z r N none) (am_z I N 0) (am_z L N 0) (fun N1 T1 r1 I2 L3 =>
    (am_ts T1 N).1 = 11 ∧ ∃ c4, (am_rs r1 N 0) = some c4 ∧
    ((am_ts T1 17).1 = 20 ∧ (am_ts T1 c4).1 = 20 ∧ ¬ (0 : Int32) < 0 ∧ ¬ (0 : Int32) < 0 ∧ ¬ (I2 16 1) < 0 ∧ (Int32.toNatClampNeg (0 : Int32)) + (Int32.toNatClampNeg (I2 16 1)) ≤ (am_ts T1 17).2 ∧ (Int32.toNatClampNeg (0 : Int32)) + (Int32.toNatClampNeg (I2 16 1)) ≤ (am_ts T1 c4).2) ∧
    ∃ I5, I5 = (am_ci I2 17 c4 (Int32.toNatClampNeg (0 : Int32)) (Int32.toNatClampNeg (0 : Int32)) (Int32.toNatClampNeg (I2 16 1))) ∧
    (am_ts T1 N).1 = 11 ∧ ∃ c6, (am_rs r1 N 3) = some c6 ∧
    ((am_ts T1 18).1 = 20 ∧ (am_ts T1 c6).1 = 20 ∧ ¬ (0 : Int32) < 0 ∧ ¬ (0 : Int32) < 0 ∧ ¬ (I5 16 2) < 0 ∧ (Int32.toNatClampNeg (0 : Int32)) + (Int32.toNatClampNeg (I5 16 2)) ≤ (am_ts T1 18).2 ∧ (Int32.toNatClampNeg (0 : Int32)) + (Int32.toNatClampNeg (I5 16 2)) ≤ (am_ts T1 c6).2) ∧
    ∃ I7, I7 = (am_ci I5 18 c6 (Int32.toNatClampNeg (0 : Int32)) (Int32.toNatClampNeg (0 : Int32)) (Int32.toNatClampNeg (I5 16 2))) ∧
    (am_ts T1 N).1 = 11 ∧ ∃ c8, (am_rs r1 N 4) = some c8 ∧
    ((am_ts T1 19).1 = 20 ∧ (am_ts T1 c8).1 = 20 ∧ ¬ (0 : Int32) < 0 ∧ ¬ (0 : Int32) < 0 ∧ ¬ (I7 16 2) < 0 ∧ (Int32.toNatClampNeg (0 : Int32)) + (Int32.toNatClampNeg (I7 16 2)) ≤ (am_ts T1 19).2 ∧ (Int32.toNatClampNeg (0 : Int32)) + (Int32.toNatClampNeg (I7 16 2)) ≤ (am_ts T1 c8).2) ∧
    ∃ I9, I9 = (am_ci I7 19 c8 (Int32.toNatClampNeg (0 : Int32)) (Int32.toNatClampNeg (0 : Int32)) (Int32.toNatClampNeg (I7 16 2))) ∧
    (am_ts T1 N).1 = 11 ∧ ∃ c10, (am_rs r1 N 5) = some c10 ∧
    ((am_ts T1 20).1 = 20 ∧ (am_ts T1 c10).1 = 20 ∧ ¬ (0 : Int32) < 0 ∧ ¬ (0 : Int32) < 0 ∧ ¬ ((I9 16 2) * 5) < 0 ∧ (Int32.toNatClampNeg (0 : Int32)) + (Int32.toNatClampNeg ((I9 16 2) * 5)) ≤ (am_ts T1 20).2 ∧ (Int32.toNatClampNeg (0 : Int32)) + (Int32.toNatClampNeg ((I9 16 2) * 5)) ≤ (am_ts T1 c10).2) ∧
    ∃ I11, I11 = (am_ci I9 20 c10 (Int32.toNatClampNeg (0 : Int32)) (Int32.toNatClampNeg (0 : Int32)) (Int32.toNatClampNeg ((I9 16 2) * 5))) ∧
    ((am_ts T1 N).1 = 11) ∧
    ((am_ts T1 N).1 = 11) ∧
    K (some N) N1 T1 r1 (am_u (am_u I11 N 1 (I11 16 1)) N 2 ((am_u I11 N 1 (I11 16 1)) 16 2)) L3)
set_option maxRecDepth 100000 in
theorem s_76 {S : am_S} {d : Nat} {N : Nat} {T : Nat → Nat × Nat} {I : am_I} {L : am_J} {r : Nat → Nat → Option Nat} {Q : am_Q} {K : Option Nat → Nat → (Nat → Nat × Nat) → (Nat → Nat → Option Nat) → am_I → am_J → Prop} (hw : w_76 N T r I L K) (hK : ∀ (q : Option Nat) (N1 : Nat) (T1 : Nat → Nat × Nat) (r1 : Nat → Nat → Option Nat) (I1 : am_I) (L1 : am_J), K q N1 T1 r1 I1 L1 → Q (some (am_rv q)) (N1, am_ts T1, I1, L1, am_rs r1)) : am_E S 76 (d + 2) 0 0 0 [.ref 16, am_jk] [] (N, am_ts T, I, L, am_rs r) Q := by
  unfold w_76 at hw
  try dsimp only at hw
  refine am_E.run [3] 2000 (show (am_E S 76 (d + 2) 1 6 3 [.ref 16, am_jk] [.ref N] (am_n (N, am_ts T, I, L, am_rs r) 11 0) Q) from ?_)
  have hN := hw.1
  replace hw := hw.2
  rw [am_n_eq hN]
  refine am_E.run [12] 2000 (show (am_E S 76 (d + 2) 1 6 12 [.ref 16, am_jk] [.int ((am_z I N 0) 16 2), .int ((am_z I N 0) 16 1), .ref N, .ref N] ((N + 1), am_ts (am_tn T N 11 0), (am_z I N 0), (am_z L N 0), am_rs (am_z r N none)) Q) from ?_)
  refine am_E.go (show (if (List.length (List.take 2 [.int ((am_z I N 0) 16 2), .int ((am_z I N 0) 16 1), .ref N, .ref N]) = 2 ∧ (am_ts (am_tn T N 11 0) N).1 = 11) then _ else False) from ?_)
  refine am_ifp ⟨rfl, hw.1⟩ ?_
  replace hw := hw.2
  refine ⟨am_kv_NTrIL _, s_3 hw (fun N1 T1 r1 I2 L3 hk => ⟨N1, T1, r1, I2, L3, rfl, rfl, hk⟩), ?_⟩
  intro v h9 hv
  obtain ⟨N1, T1, r1, I2, L3, rfl, rfl, hw⟩ := hv
  try dsimp only at hw
  refine am_E.run [25] 2000 (show (if (am_ts T1 N).1 = 11 ∧ 2 < 4 then (am_E S 76 (d + 2) 5 490 25 [.ref 16, .ref N] [am_rv (am_rs r1 N 0), .int 0, .ref 17] (N1, am_ts T1, I2, L3, am_rs r1) Q) else False) from ?_)
  refine am_ifp ⟨hw.1, by decide⟩ ?_
  replace hw := hw.2
  obtain ⟨c4, hx, hw⟩ := hw
  rw [hx]
  refine am_E.run [33] 2000 (show (if (am_ts T1 17).1 = 20 ∧ (am_ts T1 c4).1 = 20 ∧ ¬ (0 : Int32) < 0 ∧ ¬ (0 : Int32) < 0 ∧ ¬ (I2 16 1) < 0 ∧ (Int32.toNatClampNeg (0 : Int32)) + (Int32.toNatClampNeg (I2 16 1)) ≤ (am_ts T1 17).2 ∧ (Int32.toNatClampNeg (0 : Int32)) + (Int32.toNatClampNeg (I2 16 1)) ≤ (am_ts T1 c4).2 ∧ 0 ≤ 8 then (am_E S 76 (d + 2) 5 490 33 [.ref 16, .ref N] [] (N1, am_ts T1, (am_ci I2 17 c4 (Int32.toNatClampNeg (0 : Int32)) (Int32.toNatClampNeg (0 : Int32)) (Int32.toNatClampNeg (I2 16 1))), L3, am_rs r1) Q) else False) from ?_)
  refine am_ifp ⟨hw.1.1, hw.1.2.1, hw.1.2.2.1, hw.1.2.2.2.1, hw.1.2.2.2.2.1, hw.1.2.2.2.2.2.1, hw.1.2.2.2.2.2.2, by decide⟩ ?_
  replace hw := hw.2
  obtain ⟨I5, hI, hw⟩ := hw
  rw [← hI]
  refine am_E.run [42] 2000 (show (if (am_ts T1 N).1 = 11 ∧ 2 < 4 then (am_E S 76 (d + 2) 5 490 42 [.ref 16, .ref N] [am_rv (am_rs r1 N 3), .int 0, .ref 18] (N1, am_ts T1, I5, L3, am_rs r1) Q) else False) from ?_)
  refine am_ifp ⟨hw.1, by decide⟩ ?_
  replace hw := hw.2
  obtain ⟨c6, hx, hw⟩ := hw
  rw [hx]
  refine am_E.run [50] 2000 (show (if (am_ts T1 18).1 = 20 ∧ (am_ts T1 c6).1 = 20 ∧ ¬ (0 : Int32) < 0 ∧ ¬ (0 : Int32) < 0 ∧ ¬ (I5 16 2) < 0 ∧ (Int32.toNatClampNeg (0 : Int32)) + (Int32.toNatClampNeg (I5 16 2)) ≤ (am_ts T1 18).2 ∧ (Int32.toNatClampNeg (0 : Int32)) + (Int32.toNatClampNeg (I5 16 2)) ≤ (am_ts T1 c6).2 ∧ 0 ≤ 8 then (am_E S 76 (d + 2) 5 490 50 [.ref 16, .ref N] [] (N1, am_ts T1, (am_ci I5 18 c6 (Int32.toNatClampNeg (0 : Int32)) (Int32.toNatClampNeg (0 : Int32)) (Int32.toNatClampNeg (I5 16 2))), L3, am_rs r1) Q) else False) from ?_)
  refine am_ifp ⟨hw.1.1, hw.1.2.1, hw.1.2.2.1, hw.1.2.2.2.1, hw.1.2.2.2.2.1, hw.1.2.2.2.2.2.1, hw.1.2.2.2.2.2.2, by decide⟩ ?_
  replace hw := hw.2
  obtain ⟨I7, hI, hw⟩ := hw
  rw [← hI]
  refine am_E.run [59] 2000 (show (if (am_ts T1 N).1 = 11 ∧ 2 < 4 then (am_E S 76 (d + 2) 5 490 59 [.ref 16, .ref N] [am_rv (am_rs r1 N 4), .int 0, .ref 19] (N1, am_ts T1, I7, L3, am_rs r1) Q) else False) from ?_)
  refine am_ifp ⟨hw.1, by decide⟩ ?_
  replace hw := hw.2
  obtain ⟨c8, hx, hw⟩ := hw
  rw [hx]
  refine am_E.run [67] 2000 (show (if (am_ts T1 19).1 = 20 ∧ (am_ts T1 c8).1 = 20 ∧ ¬ (0 : Int32) < 0 ∧ ¬ (0 : Int32) < 0 ∧ ¬ (I7 16 2) < 0 ∧ (Int32.toNatClampNeg (0 : Int32)) + (Int32.toNatClampNeg (I7 16 2)) ≤ (am_ts T1 19).2 ∧ (Int32.toNatClampNeg (0 : Int32)) + (Int32.toNatClampNeg (I7 16 2)) ≤ (am_ts T1 c8).2 ∧ 0 ≤ 8 then (am_E S 76 (d + 2) 5 490 67 [.ref 16, .ref N] [] (N1, am_ts T1, (am_ci I7 19 c8 (Int32.toNatClampNeg (0 : Int32)) (Int32.toNatClampNeg (0 : Int32)) (Int32.toNatClampNeg (I7 16 2))), L3, am_rs r1) Q) else False) from ?_)
  refine am_ifp ⟨hw.1.1, hw.1.2.1, hw.1.2.2.1, hw.1.2.2.2.1, hw.1.2.2.2.2.1, hw.1.2.2.2.2.2.1, hw.1.2.2.2.2.2.2, by decide⟩ ?_
  replace hw := hw.2
  obtain ⟨I9, hI, hw⟩ := hw
  rw [← hI]
  refine am_E.run [76] 2000 (show (if (am_ts T1 N).1 = 11 ∧ 2 < 4 then (am_E S 76 (d + 2) 5 490 76 [.ref 16, .ref N] [am_rv (am_rs r1 N 5), .int 0, .ref 20] (N1, am_ts T1, I9, L3, am_rs r1) Q) else False) from ?_)
  refine am_ifp ⟨hw.1, by decide⟩ ?_
  replace hw := hw.2
  obtain ⟨c10, hx, hw⟩ := hw
  rw [hx]
  refine am_E.run [86] 2000 (show (if (am_ts T1 20).1 = 20 ∧ (am_ts T1 c10).1 = 20 ∧ ¬ (0 : Int32) < 0 ∧ ¬ (0 : Int32) < 0 ∧ ¬ ((I9 16 2) * 5) < 0 ∧ (Int32.toNatClampNeg (0 : Int32)) + (Int32.toNatClampNeg ((I9 16 2) * 5)) ≤ (am_ts T1 20).2 ∧ (Int32.toNatClampNeg (0 : Int32)) + (Int32.toNatClampNeg ((I9 16 2) * 5)) ≤ (am_ts T1 c10).2 ∧ 0 ≤ 8 then (am_E S 76 (d + 2) 5 490 86 [.ref 16, .ref N] [] (N1, am_ts T1, (am_ci I9 20 c10 (Int32.toNatClampNeg (0 : Int32)) (Int32.toNatClampNeg (0 : Int32)) (Int32.toNatClampNeg ((I9 16 2) * 5))), L3, am_rs r1) Q) else False) from ?_)
  refine am_ifp ⟨hw.1.1, hw.1.2.1, hw.1.2.2.1, hw.1.2.2.2.1, hw.1.2.2.2.2.1, hw.1.2.2.2.2.2.1, hw.1.2.2.2.2.2.2, by decide⟩ ?_
  replace hw := hw.2
  obtain ⟨I11, hI, hw⟩ := hw
  rw [← hI]
  refine am_E.run [103] 2000 (show (if (am_ts T1 N).1 = 11 then (if (am_ts T1 N).1 = 11 then (am_E S 76 (d + 2) 5 490 103 [.ref 16, .ref N] [.ref N] (N1, am_ts T1, (am_u (am_u I11 N 1 (I11 16 1)) N 2 ((am_u I11 N 1 (I11 16 1)) 16 2)), L3, am_rs r1) Q) else False) else False) from ?_)
  refine am_ifp hw.1 ?_
  replace hw := hw.2
  refine am_ifp hw.1 ?_
  replace hw := hw.2
  refine am_E.run [] 2000 (show (True ∧ Q (some (.ref N)) (N1, am_ts T1, (am_u (am_u I11 N 1 (I11 16 1)) N 2 ((am_u I11 N 1 (I11 16 1)) 16 2)), L3, am_rs r1)) from ?_)
  exact ⟨trivial, hK _ _ _ _ _ _ hw⟩
/-- KeyKeepers$Prison.addLaw(LKeyKeepers$Text;)I -/
def w_77 (x0 : Nat) (N : Nat) (T : Nat → Nat × Nat) (r : Nat → Nat → Option Nat) (I : am_I) (K : Int32 → Nat → (Nat → Nat × Nat) → (Nat → Nat → Option Nat) → am_I → Prop) : Prop :=
  if (I 1 15) < 6 then
    am_fr 11 (Int32.toNatClampNeg (I 1 15)) ∧ (((am_ts T 11).1 = 23 ∧ (am_ts T x0).1 = 7) ∨ ((am_ts T 11).1 = 24 ∧ (am_ts T x0).1 = 11)) ∧ (¬ ((I 1 15) < 0 ∨ (am_ts T 11).2 ≤ Int32.toNatClampNeg (I 1 15))) ∧ 
    K (I 1 15) N T (am_u r 11 (Int32.toNatClampNeg (I 1 15)) (some x0)) (am_u I 1 15 ((I 1 15) + 1))
  else
    K (-1) N T r I
set_option maxRecDepth 100000 in
theorem s_77 {S : am_S} {d : Nat} {N : Nat} {T : Nat → Nat × Nat} {I : am_I} {L : am_J} {r : Nat → Nat → Option Nat} {Q : am_Q} {x0 : Nat} {K : Int32 → Nat → (Nat → Nat × Nat) → (Nat → Nat → Option Nat) → am_I → Prop} (hw : w_77 x0 N T r I K) (hK : ∀ (q : Int32) (N1 : Nat) (T1 : Nat → Nat × Nat) (r1 : Nat → Nat → Option Nat) (I1 : am_I), K q N1 T1 r1 I1 → Q (some (.int q)) (N1, am_ts T1, I1, L, am_rs r1)) : am_E S 77 (d + 0) 0 0 0 [.ref 1, .ref x0] [] (N, am_ts T, I, L, am_rs r) Q := by
  unfold w_77 at hw
  try dsimp only at hw
  refine am_E.run [21] 2000 (show (if (I 1 15) < 6 then (if ((am_ts T 11).1 = 23 ∧ (am_ts T x0).1 = 7) ∨ ((am_ts T 11).1 = 24 ∧ (am_ts T x0).1 = 11) then (if (I 1 15) < 0 ∨ (am_ts T 11).2 ≤ Int32.toNatClampNeg (I 1 15) then False else (am_E S 77 (d + 0) 0 0 21 [.ref 1, .ref x0] [] (N, am_ts T, I, L, am_u (am_rs r) 11 (Int32.toNatClampNeg (I 1 15)) (some x0)) Q)) else False) else (True ∧ Q (some (.int (-1))) (N, am_ts T, I, L, am_rs r))) from ?_)
  by_cases hc : (I 1 15) < 6
  · rw [if_pos hc] at hw ⊢
    have hN := hw.1
    replace hw := hw.2
    refine am_ifp hw.1 ?_
    replace hw := hw.2
    refine am_ifn hw.1 ?_
    replace hw := hw.2
    rw [am_rs_u hN]
    refine am_E.run [] 2000 (show (True ∧ Q (some (.int (I 1 15))) (N, am_ts T, (am_u I 1 15 ((I 1 15) + 1)), L, am_rs (am_u r 11 (Int32.toNatClampNeg (I 1 15)) (some x0)))) from ?_)
    exact ⟨trivial, hK _ _ _ _ _ hw⟩
  · rw [if_neg hc] at hw ⊢
    exact ⟨trivial, hK _ _ _ _ _ hw⟩
def lw_80_177 : Nat → Nat → Nat → Int32 → Nat → (Nat → Nat × Nat) → (Nat → Nat → Option Nat) → am_I → (Int32 → Nat → (Nat → Nat × Nat) → (Nat → Nat → Option Nat) → Prop) → Prop
  | 0, _, _, _, _, _, _, _, _ => False
  | n + 1, v0, v1, v2, N, T, r, I, E0 =>
    if (6 : Int32) ≤ v2 then
      E0 v2 N T r
    else
      (am_ts T v0).1 = 7 ∧ ∃ c28, (am_rs r v0 14) = some c28 ∧
      (am_ts T v1).1 = 7 ∧ ∃ c29, (am_rs r v1 14) = some c29 ∧
      ((am_ts T c29).1 = 23 ∨ (am_ts T c29).1 = 24) ∧
      ¬ (v2 < 0 ∨ (am_ts T c29).2 ≤ Int32.toNatClampNeg v2) ∧
      ((am_rs r c29 (Int32.toNatClampNeg v2)) = none →
        am_fr c28 (Int32.toNatClampNeg v2) ∧ ((am_ts T c28).1 = 23 ∨ (am_ts T c28).1 = 24) ∧ (¬ (v2 < 0 ∨ (am_ts T c28).2 ≤ Int32.toNatClampNeg v2)) ∧ 
        lw_80_177 n v0 v1 (v2 + 1) N T (am_u r c28 (Int32.toNatClampNeg v2) none) I E0) ∧ ∀ t30, (am_rs r c29 (Int32.toNatClampNeg v2)) = some t30 →
        am_fr c28 (Int32.toNatClampNeg v2) ∧ (((am_ts T c28).1 = 23 ∧ (am_ts T t30).1 = 7) ∨ ((am_ts T c28).1 = 24 ∧ (am_ts T t30).1 = 11)) ∧ (¬ (v2 < 0 ∨ (am_ts T c28).2 ≤ Int32.toNatClampNeg v2)) ∧ 
        lw_80_177 n v0 v1 (v2 + 1) N T (am_u r c28 (Int32.toNatClampNeg v2) (some t30)) I E0
set_option maxRecDepth 100000 in
theorem sl_80_177 {S : am_S} {d : Nat} {Q : am_Q} {I : am_I} {L : am_J} {E0 : Int32 → Nat → (Nat → Nat × Nat) → (Nat → Nat → Option Nat) → Prop} : ∀ (n : Nat) {v0 : Nat} {v1 : Nat} {v2 : Int32} {N : Nat} {T : Nat → Nat × Nat} {r : Nat → Nat → Option Nat}, lw_80_177 n v0 v1 v2 N T r I E0 → (∀ (o2 : Int32) (N1 : Nat) (T1 : Nat → Nat × Nat) (r1 : Nat → Nat → Option Nat), E0 o2 N1 T1 r1 → am_E S 80 (d + 1) 0 0 201 [.ref v0, .ref v1, .int o2] [] (N1, am_ts T1, I, L, am_rs r1) Q) → am_E S 80 (d + 1) 0 0 177 [.ref v0, .ref v1, .int v2] [] (N, am_ts T, I, L, am_rs r) Q
  | 0, _, _, _, _, _, _, hw, _ => hw.elim
  | n + 1, v0, v1, v2, N, T, r, hw, hE0 => by
    have ih := @sl_80_177 S d Q I L E0 n
    unfold lw_80_177 at hw
    try dsimp only at hw
    refine am_E.run [187, 201] 2000 (show (if (6 : Int32) ≤ v2 then (am_E S 80 (d + 1) 0 0 201 [.ref v0, .ref v1, .int v2] [] (N, am_ts T, I, L, am_rs r) Q) else (if (am_ts T v0).1 = 7 ∧ 2 < 4 then (am_E S 80 (d + 1) 0 0 187 [.ref v0, .ref v1, .int v2] [am_rv (am_rs r v0 14)] (N, am_ts T, I, L, am_rs r) Q) else False)) from ?_)
    by_cases hc : (6 : Int32) ≤ v2
    · rw [if_pos hc] at hw ⊢
      exact hE0 _ _ _ _ hw
    · rw [if_neg hc] at hw ⊢
      refine am_ifp ⟨hw.1, by decide⟩ ?_
      replace hw := hw.2
      obtain ⟨c28, hx, hw⟩ := hw
      rw [hx]
      refine am_E.run [192] 2000 (show (if (am_ts T v1).1 = 7 ∧ 2 < 4 then (am_E S 80 (d + 1) 0 0 192 [.ref v0, .ref v1, .int v2] [am_rv (am_rs r v1 14), .int v2, .ref c28] (N, am_ts T, I, L, am_rs r) Q) else False) from ?_)
      refine am_ifp ⟨hw.1, by decide⟩ ?_
      replace hw := hw.2
      obtain ⟨c29, hx, hw⟩ := hw
      rw [hx]
      refine am_E.run [194] 2000 (show (if (am_ts T c29).1 = 23 ∨ (am_ts T c29).1 = 24 then (if v2 < 0 ∨ (am_ts T c29).2 ≤ Int32.toNatClampNeg v2 then False else (am_E S 80 (d + 1) 0 0 194 [.ref v0, .ref v1, .int v2] [am_rv (am_rs r c29 (Int32.toNatClampNeg v2)), .int v2, .ref c28] (N, am_ts T, I, L, am_rs r) Q)) else False) from ?_)
      refine am_ifp hw.1 ?_
      replace hw := hw.2
      refine am_ifn hw.1 ?_
      replace hw := hw.2
      cases hx : (am_rs r c29 (Int32.toNatClampNeg v2)) with
      | none =>
        replace hw := hw.1 hx
        refine am_E.run [195] 2000 (show (if (am_ts T c28).1 = 23 ∨ (am_ts T c28).1 = 24 then (if v2 < 0 ∨ (am_ts T c28).2 ≤ Int32.toNatClampNeg v2 then False else (am_E S 80 (d + 1) 0 0 195 [.ref v0, .ref v1, .int v2] [] (N, am_ts T, I, L, am_u (am_rs r) c28 (Int32.toNatClampNeg v2) none) Q)) else False) from ?_)
        have hN := hw.1
        replace hw := hw.2
        refine am_ifp hw.1 ?_
        replace hw := hw.2
        refine am_ifn hw.1 ?_
        replace hw := hw.2
        rw [am_rs_u hN]
        refine am_E.run [177] 2000 (show (am_E S 80 (d + 1) 0 0 177 [.ref v0, .ref v1, .int (v2 + 1)] [] (N, am_ts T, I, L, am_rs (am_u r c28 (Int32.toNatClampNeg v2) none)) Q) from ?_)
        exact ih hw hE0
      | some t30 =>
        replace hw := hw.2 t30 hx
        refine am_E.run [195] 2000 (show (if ((am_ts T c28).1 = 23 ∧ (am_ts T t30).1 = 7) ∨ ((am_ts T c28).1 = 24 ∧ (am_ts T t30).1 = 11) then (if v2 < 0 ∨ (am_ts T c28).2 ≤ Int32.toNatClampNeg v2 then False else (am_E S 80 (d + 1) 0 0 195 [.ref v0, .ref v1, .int v2] [] (N, am_ts T, I, L, am_u (am_rs r) c28 (Int32.toNatClampNeg v2) (some t30)) Q)) else False) from ?_)
        have hN := hw.1
        replace hw := hw.2
        refine am_ifp hw.1 ?_
        replace hw := hw.2
        refine am_ifn hw.1 ?_
        replace hw := hw.2
        rw [am_rs_u hN]
        refine am_E.run [177] 2000 (show (am_E S 80 (d + 1) 0 0 177 [.ref v0, .ref v1, .int (v2 + 1)] [] (N, am_ts T, I, L, am_rs (am_u r c28 (Int32.toNatClampNeg v2) (some t30))) Q) from ?_)
        exact ih hw hE0
/-- KeyKeepers$Prison.copyFrom(LKeyKeepers$Prison;)V -/
def w_80 (a : Nat) (x0 : Nat) (N : Nat) (T : Nat → Nat × Nat) (r : Nat → Nat → Option Nat) (I : am_I) (K : Nat → (Nat → Nat × Nat) → (Nat → Nat → Option Nat) → am_I → Prop) : Prop :=
  (am_ts T x0).1 = 7 ∧ ∃ c1, (am_rs r x0 0) = some c1 ∧
  (am_ts T a).1 = 7 ∧ ∃ c2, (am_rs r a 0) = some c2 ∧
  ((am_ts T c1).1 = 20 ∧ (am_ts T c2).1 = 20 ∧ ¬ (0 : Int32) < 0 ∧ ¬ (0 : Int32) < 0 ∧ ¬ (12 : Int32) < 0 ∧ (Int32.toNatClampNeg (0 : Int32)) + (Int32.toNatClampNeg (12 : Int32)) ≤ (am_ts T c1).2 ∧ (Int32.toNatClampNeg (0 : Int32)) + (Int32.toNatClampNeg (12 : Int32)) ≤ (am_ts T c2).2) ∧
  ∃ I3, I3 = (am_ci I c1 c2 (Int32.toNatClampNeg (0 : Int32)) (Int32.toNatClampNeg (0 : Int32)) (Int32.toNatClampNeg (12 : Int32))) ∧
  (am_ts T x0).1 = 7 ∧ ∃ c4, (am_rs r x0 1) = some c4 ∧
  (am_ts T a).1 = 7 ∧ ∃ c5, (am_rs r a 1) = some c5 ∧
  ((am_ts T c4).1 = 20 ∧ (am_ts T c5).1 = 20 ∧ ¬ (0 : Int32) < 0 ∧ ¬ (0 : Int32) < 0 ∧ ¬ (12 : Int32) < 0 ∧ (Int32.toNatClampNeg (0 : Int32)) + (Int32.toNatClampNeg (12 : Int32)) ≤ (am_ts T c4).2 ∧ (Int32.toNatClampNeg (0 : Int32)) + (Int32.toNatClampNeg (12 : Int32)) ≤ (am_ts T c5).2) ∧
  ∃ I6, I6 = (am_ci I3 c4 c5 (Int32.toNatClampNeg (0 : Int32)) (Int32.toNatClampNeg (0 : Int32)) (Int32.toNatClampNeg (12 : Int32))) ∧
  ((am_ts T x0).1 = 7) ∧
  ((am_ts T a).1 = 7) ∧
  ((am_ts T x0).1 = 7) ∧
  ((am_ts T a).1 = 7) ∧
  (am_ts T x0).1 = 7 ∧ ∃ c7, (am_rs r x0 4) = some c7 ∧
  (am_ts T a).1 = 7 ∧ ∃ c8, (am_rs r a 4) = some c8 ∧
  ((am_ts T c7).1 = 20 ∧ (am_ts T c8).1 = 20 ∧ ¬ (0 : Int32) < 0 ∧ ¬ (0 : Int32) < 0 ∧ ¬ (8 : Int32) < 0 ∧ (Int32.toNatClampNeg (0 : Int32)) + (Int32.toNatClampNeg (8 : Int32)) ≤ (am_ts T c7).2 ∧ (Int32.toNatClampNeg (0 : Int32)) + (Int32.toNatClampNeg (8 : Int32)) ≤ (am_ts T c8).2) ∧
  ∃ I9, I9 = (am_ci (am_u (am_u I6 a 2 (I6 x0 2)) a 3 ((am_u I6 a 2 (I6 x0 2)) x0 3)) c7 c8 (Int32.toNatClampNeg (0 : Int32)) (Int32.toNatClampNeg (0 : Int32)) (Int32.toNatClampNeg (8 : Int32))) ∧
  (am_ts T x0).1 = 7 ∧ ∃ c10, (am_rs r x0 5) = some c10 ∧
  (am_ts T a).1 = 7 ∧ ∃ c11, (am_rs r a 5) = some c11 ∧
  ((am_ts T c10).1 = 20 ∧ (am_ts T c11).1 = 20 ∧ ¬ (0 : Int32) < 0 ∧ ¬ (0 : Int32) < 0 ∧ ¬ (8 : Int32) < 0 ∧ (Int32.toNatClampNeg (0 : Int32)) + (Int32.toNatClampNeg (8 : Int32)) ≤ (am_ts T c10).2 ∧ (Int32.toNatClampNeg (0 : Int32)) + (Int32.toNatClampNeg (8 : Int32)) ≤ (am_ts T c11).2) ∧
  ∃ I12, I12 = (am_ci I9 c10 c11 (Int32.toNatClampNeg (0 : Int32)) (Int32.toNatClampNeg (0 : Int32)) (Int32.toNatClampNeg (8 : Int32))) ∧
  (am_ts T x0).1 = 7 ∧ ∃ c13, (am_rs r x0 6) = some c13 ∧
  (am_ts T a).1 = 7 ∧ ∃ c14, (am_rs r a 6) = some c14 ∧
  ((am_ts T c13).1 = 20 ∧ (am_ts T c14).1 = 20 ∧ ¬ (0 : Int32) < 0 ∧ ¬ (0 : Int32) < 0 ∧ ¬ (8 : Int32) < 0 ∧ (Int32.toNatClampNeg (0 : Int32)) + (Int32.toNatClampNeg (8 : Int32)) ≤ (am_ts T c13).2 ∧ (Int32.toNatClampNeg (0 : Int32)) + (Int32.toNatClampNeg (8 : Int32)) ≤ (am_ts T c14).2) ∧
  ∃ I15, I15 = (am_ci I12 c13 c14 (Int32.toNatClampNeg (0 : Int32)) (Int32.toNatClampNeg (0 : Int32)) (Int32.toNatClampNeg (8 : Int32))) ∧
  (am_ts T x0).1 = 7 ∧ ∃ c16, (am_rs r x0 7) = some c16 ∧
  (am_ts T a).1 = 7 ∧ ∃ c17, (am_rs r a 7) = some c17 ∧
  ((am_ts T c16).1 = 20 ∧ (am_ts T c17).1 = 20 ∧ ¬ (0 : Int32) < 0 ∧ ¬ (0 : Int32) < 0 ∧ ¬ (8 : Int32) < 0 ∧ (Int32.toNatClampNeg (0 : Int32)) + (Int32.toNatClampNeg (8 : Int32)) ≤ (am_ts T c16).2 ∧ (Int32.toNatClampNeg (0 : Int32)) + (Int32.toNatClampNeg (8 : Int32)) ≤ (am_ts T c17).2) ∧
  ∃ I18, I18 = (am_ci I15 c16 c17 (Int32.toNatClampNeg (0 : Int32)) (Int32.toNatClampNeg (0 : Int32)) (Int32.toNatClampNeg (8 : Int32))) ∧
  (am_ts T x0).1 = 7 ∧ ∃ c19, (am_rs r x0 8) = some c19 ∧
  (am_ts T a).1 = 7 ∧ ∃ c20, (am_rs r a 8) = some c20 ∧
  ((am_ts T c19).1 = 20 ∧ (am_ts T c20).1 = 20 ∧ ¬ (0 : Int32) < 0 ∧ ¬ (0 : Int32) < 0 ∧ ¬ (8 : Int32) < 0 ∧ (Int32.toNatClampNeg (0 : Int32)) + (Int32.toNatClampNeg (8 : Int32)) ≤ (am_ts T c19).2 ∧ (Int32.toNatClampNeg (0 : Int32)) + (Int32.toNatClampNeg (8 : Int32)) ≤ (am_ts T c20).2) ∧
  ∃ I21, I21 = (am_ci I18 c19 c20 (Int32.toNatClampNeg (0 : Int32)) (Int32.toNatClampNeg (0 : Int32)) (Int32.toNatClampNeg (8 : Int32))) ∧
  ((am_ts T x0).1 = 7) ∧
  ((am_ts T a).1 = 7) ∧
  ((am_ts T x0).1 = 7) ∧
  ((am_ts T a).1 = 7) ∧
  (am_ts T x0).1 = 7 ∧ ∃ c22, (am_rs r x0 11) = some c22 ∧
  (am_ts T a).1 = 7 ∧ ∃ c23, (am_rs r a 11) = some c23 ∧
  ((am_ts T c22).1 = 20 ∧ (am_ts T c23).1 = 20 ∧ ¬ (0 : Int32) < 0 ∧ ¬ (0 : Int32) < 0 ∧ ¬ (8 : Int32) < 0 ∧ (Int32.toNatClampNeg (0 : Int32)) + (Int32.toNatClampNeg (8 : Int32)) ≤ (am_ts T c22).2 ∧ (Int32.toNatClampNeg (0 : Int32)) + (Int32.toNatClampNeg (8 : Int32)) ≤ (am_ts T c23).2) ∧
  ∃ I24, I24 = (am_ci (am_u (am_u I21 a 9 (I21 x0 9)) a 10 ((am_u I21 a 9 (I21 x0 9)) x0 10)) c22 c23 (Int32.toNatClampNeg (0 : Int32)) (Int32.toNatClampNeg (0 : Int32)) (Int32.toNatClampNeg (8 : Int32))) ∧
  (am_ts T x0).1 = 7 ∧ ∃ c25, (am_rs r x0 12) = some c25 ∧
  (am_ts T a).1 = 7 ∧ ∃ c26, (am_rs r a 12) = some c26 ∧
  ((am_ts T c25).1 = 20 ∧ (am_ts T c26).1 = 20 ∧ ¬ (0 : Int32) < 0 ∧ ¬ (0 : Int32) < 0 ∧ ¬ (8 : Int32) < 0 ∧ (Int32.toNatClampNeg (0 : Int32)) + (Int32.toNatClampNeg (8 : Int32)) ≤ (am_ts T c25).2 ∧ (Int32.toNatClampNeg (0 : Int32)) + (Int32.toNatClampNeg (8 : Int32)) ≤ (am_ts T c26).2) ∧
  ∃ I27, I27 = (am_ci I24 c25 c26 (Int32.toNatClampNeg (0 : Int32)) (Int32.toNatClampNeg (0 : Int32)) (Int32.toNatClampNeg (8 : Int32))) ∧
  ((am_ts T x0).1 = 7) ∧
  ((am_ts T a).1 = 7) ∧
  ∃ n177, lw_80_177 n177 a x0 0 N T r (am_u I27 a 13 (I27 x0 13)) (fun o31 N32 T32 r32 =>
    ((am_ts T32 x0).1 = 7) ∧
    ((am_ts T32 a).1 = 7) ∧
    ((am_ts T32 x0).1 = 7) ∧
    ((am_ts T32 a).1 = 7) ∧
    (am_ts T32 x0).1 = 7 ∧ ∃ c33, (am_rs r32 x0 17) = some c33 ∧
    (am_ts T32 a).1 = 7 ∧ ∃ c34, (am_rs r32 a 17) = some c34 ∧
    (am_ts T32 a).1 = 7 ∧ ∃ c35, (am_rs r32 a 17) = some c35 ∧
    (20 ≤ (am_ts T32 c35).1 ∧ (am_ts T32 c35).1 ≤ 24) ∧
    ((am_ts T32 c33).1 = 20 ∧ (am_ts T32 c34).1 = 20 ∧ ¬ (0 : Int32) < 0 ∧ ¬ (0 : Int32) < 0 ∧ ¬ (Int32.ofNat (am_ts T32 c35).2) < 0 ∧ (Int32.toNatClampNeg (0 : Int32)) + (Int32.toNatClampNeg (Int32.ofNat (am_ts T32 c35).2)) ≤ (am_ts T32 c33).2 ∧ (Int32.toNatClampNeg (0 : Int32)) + (Int32.toNatClampNeg (Int32.ofNat (am_ts T32 c35).2)) ≤ (am_ts T32 c34).2) ∧
    ∃ I36, I36 = (am_ci (am_u (am_u (am_u I27 a 13 (I27 x0 13)) a 15 ((am_u I27 a 13 (I27 x0 13)) x0 15)) a 16 ((am_u (am_u I27 a 13 (I27 x0 13)) a 15 ((am_u I27 a 13 (I27 x0 13)) x0 15)) x0 16)) c33 c34 (Int32.toNatClampNeg (0 : Int32)) (Int32.toNatClampNeg (0 : Int32)) (Int32.toNatClampNeg (Int32.ofNat (am_ts T32 c35).2))) ∧
    ((am_ts T32 x0).1 = 7) ∧
    ((am_ts T32 a).1 = 7) ∧
    K N32 T32 r32 (am_u I36 a 18 (I36 x0 18)))
set_option maxRecDepth 100000 in
theorem s_80 {S : am_S} {d : Nat} {N : Nat} {T : Nat → Nat × Nat} {I : am_I} {L : am_J} {r : Nat → Nat → Option Nat} {Q : am_Q} {a : Nat} {x0 : Nat} {K : Nat → (Nat → Nat × Nat) → (Nat → Nat → Option Nat) → am_I → Prop} (hw : w_80 a x0 N T r I K) (hK : ∀ (N1 : Nat) (T1 : Nat → Nat × Nat) (r1 : Nat → Nat → Option Nat) (I1 : am_I), K N1 T1 r1 I1 → Q (none) (N1, am_ts T1, I1, L, am_rs r1)) : am_E S 80 (d + 1) 0 0 0 [.ref a, .ref x0, am_jk] [] (N, am_ts T, I, L, am_rs r) Q := by
  unfold w_80 at hw
  try dsimp only at hw
  refine am_E.run [4] 2000 (show (if (am_ts T x0).1 = 7 ∧ 2 < 4 then (am_E S 80 (d + 1) 0 0 4 [.ref a, .ref x0, am_jk] [am_rv (am_rs r x0 0)] (N, am_ts T, I, L, am_rs r) Q) else False) from ?_)
  refine am_ifp ⟨hw.1, by decide⟩ ?_
  replace hw := hw.2
  obtain ⟨c1, hx, hw⟩ := hw
  rw [hx]
  refine am_E.run [9] 2000 (show (if (am_ts T a).1 = 7 ∧ 2 < 4 then (am_E S 80 (d + 1) 0 0 9 [.ref a, .ref x0, am_jk] [am_rv (am_rs r a 0), .int 0, .ref c1] (N, am_ts T, I, L, am_rs r) Q) else False) from ?_)
  refine am_ifp ⟨hw.1, by decide⟩ ?_
  replace hw := hw.2
  obtain ⟨c2, hx, hw⟩ := hw
  rw [hx]
  refine am_E.run [15] 2000 (show (if (am_ts T c1).1 = 20 ∧ (am_ts T c2).1 = 20 ∧ ¬ (0 : Int32) < 0 ∧ ¬ (0 : Int32) < 0 ∧ ¬ (12 : Int32) < 0 ∧ (Int32.toNatClampNeg (0 : Int32)) + (Int32.toNatClampNeg (12 : Int32)) ≤ (am_ts T c1).2 ∧ (Int32.toNatClampNeg (0 : Int32)) + (Int32.toNatClampNeg (12 : Int32)) ≤ (am_ts T c2).2 ∧ 0 ≤ 8 then (am_E S 80 (d + 1) 0 0 15 [.ref a, .ref x0, am_jk] [] (N, am_ts T, (am_ci I c1 c2 (Int32.toNatClampNeg (0 : Int32)) (Int32.toNatClampNeg (0 : Int32)) (Int32.toNatClampNeg (12 : Int32))), L, am_rs r) Q) else False) from ?_)
  refine am_ifp ⟨hw.1.1, hw.1.2.1, hw.1.2.2.1, hw.1.2.2.2.1, hw.1.2.2.2.2.1, hw.1.2.2.2.2.2.1, hw.1.2.2.2.2.2.2, by decide⟩ ?_
  replace hw := hw.2
  obtain ⟨I3, hI, hw⟩ := hw
  rw [← hI]
  refine am_E.run [19] 2000 (show (if (am_ts T x0).1 = 7 ∧ 2 < 4 then (am_E S 80 (d + 1) 0 0 19 [.ref a, .ref x0, am_jk] [am_rv (am_rs r x0 1)] (N, am_ts T, I3, L, am_rs r) Q) else False) from ?_)
  refine am_ifp ⟨hw.1, by decide⟩ ?_
  replace hw := hw.2
  obtain ⟨c4, hx, hw⟩ := hw
  rw [hx]
  refine am_E.run [24] 2000 (show (if (am_ts T a).1 = 7 ∧ 2 < 4 then (am_E S 80 (d + 1) 0 0 24 [.ref a, .ref x0, am_jk] [am_rv (am_rs r a 1), .int 0, .ref c4] (N, am_ts T, I3, L, am_rs r) Q) else False) from ?_)
  refine am_ifp ⟨hw.1, by decide⟩ ?_
  replace hw := hw.2
  obtain ⟨c5, hx, hw⟩ := hw
  rw [hx]
  refine am_E.run [30] 2000 (show (if (am_ts T c4).1 = 20 ∧ (am_ts T c5).1 = 20 ∧ ¬ (0 : Int32) < 0 ∧ ¬ (0 : Int32) < 0 ∧ ¬ (12 : Int32) < 0 ∧ (Int32.toNatClampNeg (0 : Int32)) + (Int32.toNatClampNeg (12 : Int32)) ≤ (am_ts T c4).2 ∧ (Int32.toNatClampNeg (0 : Int32)) + (Int32.toNatClampNeg (12 : Int32)) ≤ (am_ts T c5).2 ∧ 0 ≤ 8 then (am_E S 80 (d + 1) 0 0 30 [.ref a, .ref x0, am_jk] [] (N, am_ts T, (am_ci I3 c4 c5 (Int32.toNatClampNeg (0 : Int32)) (Int32.toNatClampNeg (0 : Int32)) (Int32.toNatClampNeg (12 : Int32))), L, am_rs r) Q) else False) from ?_)
  refine am_ifp ⟨hw.1.1, hw.1.2.1, hw.1.2.2.1, hw.1.2.2.2.1, hw.1.2.2.2.2.1, hw.1.2.2.2.2.2.1, hw.1.2.2.2.2.2.2, by decide⟩ ?_
  replace hw := hw.2
  obtain ⟨I6, hI, hw⟩ := hw
  rw [← hI]
  refine am_E.run [50] 2000 (show (if (am_ts T x0).1 = 7 ∧ 0 < 4 then (if (am_ts T a).1 = 7 then (if (am_ts T x0).1 = 7 ∧ 0 < 4 then (if (am_ts T a).1 = 7 then (if (am_ts T x0).1 = 7 ∧ 2 < 4 then (am_E S 80 (d + 1) 0 0 50 [.ref a, .ref x0, am_jk] [am_rv (am_rs r x0 4)] (N, am_ts T, (am_u (am_u I6 a 2 (I6 x0 2)) a 3 ((am_u I6 a 2 (I6 x0 2)) x0 3)), L, am_rs r) Q) else False) else False) else False) else False) else False) from ?_)
  refine am_ifp ⟨hw.1, by decide⟩ ?_
  replace hw := hw.2
  refine am_ifp hw.1 ?_
  replace hw := hw.2
  refine am_ifp ⟨hw.1, by decide⟩ ?_
  replace hw := hw.2
  refine am_ifp hw.1 ?_
  replace hw := hw.2
  refine am_ifp ⟨hw.1, by decide⟩ ?_
  replace hw := hw.2
  obtain ⟨c7, hx, hw⟩ := hw
  rw [hx]
  refine am_E.run [55] 2000 (show (if (am_ts T a).1 = 7 ∧ 2 < 4 then (am_E S 80 (d + 1) 0 0 55 [.ref a, .ref x0, am_jk] [am_rv (am_rs r a 4), .int 0, .ref c7] (N, am_ts T, (am_u (am_u I6 a 2 (I6 x0 2)) a 3 ((am_u I6 a 2 (I6 x0 2)) x0 3)), L, am_rs r) Q) else False) from ?_)
  refine am_ifp ⟨hw.1, by decide⟩ ?_
  replace hw := hw.2
  obtain ⟨c8, hx, hw⟩ := hw
  rw [hx]
  refine am_E.run [61] 2000 (show (if (am_ts T c7).1 = 20 ∧ (am_ts T c8).1 = 20 ∧ ¬ (0 : Int32) < 0 ∧ ¬ (0 : Int32) < 0 ∧ ¬ (8 : Int32) < 0 ∧ (Int32.toNatClampNeg (0 : Int32)) + (Int32.toNatClampNeg (8 : Int32)) ≤ (am_ts T c7).2 ∧ (Int32.toNatClampNeg (0 : Int32)) + (Int32.toNatClampNeg (8 : Int32)) ≤ (am_ts T c8).2 ∧ 0 ≤ 8 then (am_E S 80 (d + 1) 0 0 61 [.ref a, .ref x0, am_jk] [] (N, am_ts T, (am_ci (am_u (am_u I6 a 2 (I6 x0 2)) a 3 ((am_u I6 a 2 (I6 x0 2)) x0 3)) c7 c8 (Int32.toNatClampNeg (0 : Int32)) (Int32.toNatClampNeg (0 : Int32)) (Int32.toNatClampNeg (8 : Int32))), L, am_rs r) Q) else False) from ?_)
  refine am_ifp ⟨hw.1.1, hw.1.2.1, hw.1.2.2.1, hw.1.2.2.2.1, hw.1.2.2.2.2.1, hw.1.2.2.2.2.2.1, hw.1.2.2.2.2.2.2, by decide⟩ ?_
  replace hw := hw.2
  obtain ⟨I9, hI, hw⟩ := hw
  rw [← hI]
  refine am_E.run [65] 2000 (show (if (am_ts T x0).1 = 7 ∧ 2 < 4 then (am_E S 80 (d + 1) 0 0 65 [.ref a, .ref x0, am_jk] [am_rv (am_rs r x0 5)] (N, am_ts T, I9, L, am_rs r) Q) else False) from ?_)
  refine am_ifp ⟨hw.1, by decide⟩ ?_
  replace hw := hw.2
  obtain ⟨c10, hx, hw⟩ := hw
  rw [hx]
  refine am_E.run [70] 2000 (show (if (am_ts T a).1 = 7 ∧ 2 < 4 then (am_E S 80 (d + 1) 0 0 70 [.ref a, .ref x0, am_jk] [am_rv (am_rs r a 5), .int 0, .ref c10] (N, am_ts T, I9, L, am_rs r) Q) else False) from ?_)
  refine am_ifp ⟨hw.1, by decide⟩ ?_
  replace hw := hw.2
  obtain ⟨c11, hx, hw⟩ := hw
  rw [hx]
  refine am_E.run [76] 2000 (show (if (am_ts T c10).1 = 20 ∧ (am_ts T c11).1 = 20 ∧ ¬ (0 : Int32) < 0 ∧ ¬ (0 : Int32) < 0 ∧ ¬ (8 : Int32) < 0 ∧ (Int32.toNatClampNeg (0 : Int32)) + (Int32.toNatClampNeg (8 : Int32)) ≤ (am_ts T c10).2 ∧ (Int32.toNatClampNeg (0 : Int32)) + (Int32.toNatClampNeg (8 : Int32)) ≤ (am_ts T c11).2 ∧ 0 ≤ 8 then (am_E S 80 (d + 1) 0 0 76 [.ref a, .ref x0, am_jk] [] (N, am_ts T, (am_ci I9 c10 c11 (Int32.toNatClampNeg (0 : Int32)) (Int32.toNatClampNeg (0 : Int32)) (Int32.toNatClampNeg (8 : Int32))), L, am_rs r) Q) else False) from ?_)
  refine am_ifp ⟨hw.1.1, hw.1.2.1, hw.1.2.2.1, hw.1.2.2.2.1, hw.1.2.2.2.2.1, hw.1.2.2.2.2.2.1, hw.1.2.2.2.2.2.2, by decide⟩ ?_
  replace hw := hw.2
  obtain ⟨I12, hI, hw⟩ := hw
  rw [← hI]
  refine am_E.run [80] 2000 (show (if (am_ts T x0).1 = 7 ∧ 2 < 4 then (am_E S 80 (d + 1) 0 0 80 [.ref a, .ref x0, am_jk] [am_rv (am_rs r x0 6)] (N, am_ts T, I12, L, am_rs r) Q) else False) from ?_)
  refine am_ifp ⟨hw.1, by decide⟩ ?_
  replace hw := hw.2
  obtain ⟨c13, hx, hw⟩ := hw
  rw [hx]
  refine am_E.run [85] 2000 (show (if (am_ts T a).1 = 7 ∧ 2 < 4 then (am_E S 80 (d + 1) 0 0 85 [.ref a, .ref x0, am_jk] [am_rv (am_rs r a 6), .int 0, .ref c13] (N, am_ts T, I12, L, am_rs r) Q) else False) from ?_)
  refine am_ifp ⟨hw.1, by decide⟩ ?_
  replace hw := hw.2
  obtain ⟨c14, hx, hw⟩ := hw
  rw [hx]
  refine am_E.run [91] 2000 (show (if (am_ts T c13).1 = 20 ∧ (am_ts T c14).1 = 20 ∧ ¬ (0 : Int32) < 0 ∧ ¬ (0 : Int32) < 0 ∧ ¬ (8 : Int32) < 0 ∧ (Int32.toNatClampNeg (0 : Int32)) + (Int32.toNatClampNeg (8 : Int32)) ≤ (am_ts T c13).2 ∧ (Int32.toNatClampNeg (0 : Int32)) + (Int32.toNatClampNeg (8 : Int32)) ≤ (am_ts T c14).2 ∧ 0 ≤ 8 then (am_E S 80 (d + 1) 0 0 91 [.ref a, .ref x0, am_jk] [] (N, am_ts T, (am_ci I12 c13 c14 (Int32.toNatClampNeg (0 : Int32)) (Int32.toNatClampNeg (0 : Int32)) (Int32.toNatClampNeg (8 : Int32))), L, am_rs r) Q) else False) from ?_)
  refine am_ifp ⟨hw.1.1, hw.1.2.1, hw.1.2.2.1, hw.1.2.2.2.1, hw.1.2.2.2.2.1, hw.1.2.2.2.2.2.1, hw.1.2.2.2.2.2.2, by decide⟩ ?_
  replace hw := hw.2
  obtain ⟨I15, hI, hw⟩ := hw
  rw [← hI]
  refine am_E.run [95] 2000 (show (if (am_ts T x0).1 = 7 ∧ 2 < 4 then (am_E S 80 (d + 1) 0 0 95 [.ref a, .ref x0, am_jk] [am_rv (am_rs r x0 7)] (N, am_ts T, I15, L, am_rs r) Q) else False) from ?_)
  refine am_ifp ⟨hw.1, by decide⟩ ?_
  replace hw := hw.2
  obtain ⟨c16, hx, hw⟩ := hw
  rw [hx]
  refine am_E.run [100] 2000 (show (if (am_ts T a).1 = 7 ∧ 2 < 4 then (am_E S 80 (d + 1) 0 0 100 [.ref a, .ref x0, am_jk] [am_rv (am_rs r a 7), .int 0, .ref c16] (N, am_ts T, I15, L, am_rs r) Q) else False) from ?_)
  refine am_ifp ⟨hw.1, by decide⟩ ?_
  replace hw := hw.2
  obtain ⟨c17, hx, hw⟩ := hw
  rw [hx]
  refine am_E.run [106] 2000 (show (if (am_ts T c16).1 = 20 ∧ (am_ts T c17).1 = 20 ∧ ¬ (0 : Int32) < 0 ∧ ¬ (0 : Int32) < 0 ∧ ¬ (8 : Int32) < 0 ∧ (Int32.toNatClampNeg (0 : Int32)) + (Int32.toNatClampNeg (8 : Int32)) ≤ (am_ts T c16).2 ∧ (Int32.toNatClampNeg (0 : Int32)) + (Int32.toNatClampNeg (8 : Int32)) ≤ (am_ts T c17).2 ∧ 0 ≤ 8 then (am_E S 80 (d + 1) 0 0 106 [.ref a, .ref x0, am_jk] [] (N, am_ts T, (am_ci I15 c16 c17 (Int32.toNatClampNeg (0 : Int32)) (Int32.toNatClampNeg (0 : Int32)) (Int32.toNatClampNeg (8 : Int32))), L, am_rs r) Q) else False) from ?_)
  refine am_ifp ⟨hw.1.1, hw.1.2.1, hw.1.2.2.1, hw.1.2.2.2.1, hw.1.2.2.2.2.1, hw.1.2.2.2.2.2.1, hw.1.2.2.2.2.2.2, by decide⟩ ?_
  replace hw := hw.2
  obtain ⟨I18, hI, hw⟩ := hw
  rw [← hI]
  refine am_E.run [110] 2000 (show (if (am_ts T x0).1 = 7 ∧ 2 < 4 then (am_E S 80 (d + 1) 0 0 110 [.ref a, .ref x0, am_jk] [am_rv (am_rs r x0 8)] (N, am_ts T, I18, L, am_rs r) Q) else False) from ?_)
  refine am_ifp ⟨hw.1, by decide⟩ ?_
  replace hw := hw.2
  obtain ⟨c19, hx, hw⟩ := hw
  rw [hx]
  refine am_E.run [115] 2000 (show (if (am_ts T a).1 = 7 ∧ 2 < 4 then (am_E S 80 (d + 1) 0 0 115 [.ref a, .ref x0, am_jk] [am_rv (am_rs r a 8), .int 0, .ref c19] (N, am_ts T, I18, L, am_rs r) Q) else False) from ?_)
  refine am_ifp ⟨hw.1, by decide⟩ ?_
  replace hw := hw.2
  obtain ⟨c20, hx, hw⟩ := hw
  rw [hx]
  refine am_E.run [121] 2000 (show (if (am_ts T c19).1 = 20 ∧ (am_ts T c20).1 = 20 ∧ ¬ (0 : Int32) < 0 ∧ ¬ (0 : Int32) < 0 ∧ ¬ (8 : Int32) < 0 ∧ (Int32.toNatClampNeg (0 : Int32)) + (Int32.toNatClampNeg (8 : Int32)) ≤ (am_ts T c19).2 ∧ (Int32.toNatClampNeg (0 : Int32)) + (Int32.toNatClampNeg (8 : Int32)) ≤ (am_ts T c20).2 ∧ 0 ≤ 8 then (am_E S 80 (d + 1) 0 0 121 [.ref a, .ref x0, am_jk] [] (N, am_ts T, (am_ci I18 c19 c20 (Int32.toNatClampNeg (0 : Int32)) (Int32.toNatClampNeg (0 : Int32)) (Int32.toNatClampNeg (8 : Int32))), L, am_rs r) Q) else False) from ?_)
  refine am_ifp ⟨hw.1.1, hw.1.2.1, hw.1.2.2.1, hw.1.2.2.2.1, hw.1.2.2.2.2.1, hw.1.2.2.2.2.2.1, hw.1.2.2.2.2.2.2, by decide⟩ ?_
  replace hw := hw.2
  obtain ⟨I21, hI, hw⟩ := hw
  rw [← hI]
  refine am_E.run [141] 2000 (show (if (am_ts T x0).1 = 7 ∧ 0 < 4 then (if (am_ts T a).1 = 7 then (if (am_ts T x0).1 = 7 ∧ 0 < 4 then (if (am_ts T a).1 = 7 then (if (am_ts T x0).1 = 7 ∧ 2 < 4 then (am_E S 80 (d + 1) 0 0 141 [.ref a, .ref x0, am_jk] [am_rv (am_rs r x0 11)] (N, am_ts T, (am_u (am_u I21 a 9 (I21 x0 9)) a 10 ((am_u I21 a 9 (I21 x0 9)) x0 10)), L, am_rs r) Q) else False) else False) else False) else False) else False) from ?_)
  refine am_ifp ⟨hw.1, by decide⟩ ?_
  replace hw := hw.2
  refine am_ifp hw.1 ?_
  replace hw := hw.2
  refine am_ifp ⟨hw.1, by decide⟩ ?_
  replace hw := hw.2
  refine am_ifp hw.1 ?_
  replace hw := hw.2
  refine am_ifp ⟨hw.1, by decide⟩ ?_
  replace hw := hw.2
  obtain ⟨c22, hx, hw⟩ := hw
  rw [hx]
  refine am_E.run [146] 2000 (show (if (am_ts T a).1 = 7 ∧ 2 < 4 then (am_E S 80 (d + 1) 0 0 146 [.ref a, .ref x0, am_jk] [am_rv (am_rs r a 11), .int 0, .ref c22] (N, am_ts T, (am_u (am_u I21 a 9 (I21 x0 9)) a 10 ((am_u I21 a 9 (I21 x0 9)) x0 10)), L, am_rs r) Q) else False) from ?_)
  refine am_ifp ⟨hw.1, by decide⟩ ?_
  replace hw := hw.2
  obtain ⟨c23, hx, hw⟩ := hw
  rw [hx]
  refine am_E.run [152] 2000 (show (if (am_ts T c22).1 = 20 ∧ (am_ts T c23).1 = 20 ∧ ¬ (0 : Int32) < 0 ∧ ¬ (0 : Int32) < 0 ∧ ¬ (8 : Int32) < 0 ∧ (Int32.toNatClampNeg (0 : Int32)) + (Int32.toNatClampNeg (8 : Int32)) ≤ (am_ts T c22).2 ∧ (Int32.toNatClampNeg (0 : Int32)) + (Int32.toNatClampNeg (8 : Int32)) ≤ (am_ts T c23).2 ∧ 0 ≤ 8 then (am_E S 80 (d + 1) 0 0 152 [.ref a, .ref x0, am_jk] [] (N, am_ts T, (am_ci (am_u (am_u I21 a 9 (I21 x0 9)) a 10 ((am_u I21 a 9 (I21 x0 9)) x0 10)) c22 c23 (Int32.toNatClampNeg (0 : Int32)) (Int32.toNatClampNeg (0 : Int32)) (Int32.toNatClampNeg (8 : Int32))), L, am_rs r) Q) else False) from ?_)
  refine am_ifp ⟨hw.1.1, hw.1.2.1, hw.1.2.2.1, hw.1.2.2.2.1, hw.1.2.2.2.2.1, hw.1.2.2.2.2.2.1, hw.1.2.2.2.2.2.2, by decide⟩ ?_
  replace hw := hw.2
  obtain ⟨I24, hI, hw⟩ := hw
  rw [← hI]
  refine am_E.run [156] 2000 (show (if (am_ts T x0).1 = 7 ∧ 2 < 4 then (am_E S 80 (d + 1) 0 0 156 [.ref a, .ref x0, am_jk] [am_rv (am_rs r x0 12)] (N, am_ts T, I24, L, am_rs r) Q) else False) from ?_)
  refine am_ifp ⟨hw.1, by decide⟩ ?_
  replace hw := hw.2
  obtain ⟨c25, hx, hw⟩ := hw
  rw [hx]
  refine am_E.run [161] 2000 (show (if (am_ts T a).1 = 7 ∧ 2 < 4 then (am_E S 80 (d + 1) 0 0 161 [.ref a, .ref x0, am_jk] [am_rv (am_rs r a 12), .int 0, .ref c25] (N, am_ts T, I24, L, am_rs r) Q) else False) from ?_)
  refine am_ifp ⟨hw.1, by decide⟩ ?_
  replace hw := hw.2
  obtain ⟨c26, hx, hw⟩ := hw
  rw [hx]
  refine am_E.run [167] 2000 (show (if (am_ts T c25).1 = 20 ∧ (am_ts T c26).1 = 20 ∧ ¬ (0 : Int32) < 0 ∧ ¬ (0 : Int32) < 0 ∧ ¬ (8 : Int32) < 0 ∧ (Int32.toNatClampNeg (0 : Int32)) + (Int32.toNatClampNeg (8 : Int32)) ≤ (am_ts T c25).2 ∧ (Int32.toNatClampNeg (0 : Int32)) + (Int32.toNatClampNeg (8 : Int32)) ≤ (am_ts T c26).2 ∧ 0 ≤ 8 then (am_E S 80 (d + 1) 0 0 167 [.ref a, .ref x0, am_jk] [] (N, am_ts T, (am_ci I24 c25 c26 (Int32.toNatClampNeg (0 : Int32)) (Int32.toNatClampNeg (0 : Int32)) (Int32.toNatClampNeg (8 : Int32))), L, am_rs r) Q) else False) from ?_)
  refine am_ifp ⟨hw.1.1, hw.1.2.1, hw.1.2.2.1, hw.1.2.2.2.1, hw.1.2.2.2.2.1, hw.1.2.2.2.2.2.1, hw.1.2.2.2.2.2.2, by decide⟩ ?_
  replace hw := hw.2
  obtain ⟨I27, hI, hw⟩ := hw
  rw [← hI]
  refine am_E.run [177] 2000 (show (if (am_ts T x0).1 = 7 ∧ 0 < 4 then (if (am_ts T a).1 = 7 then (am_E S 80 (d + 1) 0 0 177 [.ref a, .ref x0, .int 0] [] (N, am_ts T, (am_u I27 a 13 (I27 x0 13)), L, am_rs r) Q) else False) else False) from ?_)
  refine am_ifp ⟨hw.1, by decide⟩ ?_
  replace hw := hw.2
  refine am_ifp hw.1 ?_
  replace hw := hw.2
  obtain ⟨n177, hw⟩ := hw
  refine sl_80_177 n177 hw (fun o31 N32 T32 r32 hw => ?_)
  · try dsimp only at hw
    refine am_E.run [221] 2000 (show (if (am_ts T32 x0).1 = 7 ∧ 0 < 4 then (if (am_ts T32 a).1 = 7 then (if (am_ts T32 x0).1 = 7 ∧ 0 < 4 then (if (am_ts T32 a).1 = 7 then (if (am_ts T32 x0).1 = 7 ∧ 2 < 4 then (am_E S 80 (d + 1) 0 0 221 [.ref a, .ref x0, .int o31] [am_rv (am_rs r32 x0 17)] (N32, am_ts T32, (am_u (am_u (am_u I27 a 13 (I27 x0 13)) a 15 ((am_u I27 a 13 (I27 x0 13)) x0 15)) a 16 ((am_u (am_u I27 a 13 (I27 x0 13)) a 15 ((am_u I27 a 13 (I27 x0 13)) x0 15)) x0 16)), L, am_rs r32) Q) else False) else False) else False) else False) else False) from ?_)
    refine am_ifp ⟨hw.1, by decide⟩ ?_
    replace hw := hw.2
    refine am_ifp hw.1 ?_
    replace hw := hw.2
    refine am_ifp ⟨hw.1, by decide⟩ ?_
    replace hw := hw.2
    refine am_ifp hw.1 ?_
    replace hw := hw.2
    refine am_ifp ⟨hw.1, by decide⟩ ?_
    replace hw := hw.2
    obtain ⟨c33, hx, hw⟩ := hw
    rw [hx]
    refine am_E.run [226] 2000 (show (if (am_ts T32 a).1 = 7 ∧ 2 < 4 then (am_E S 80 (d + 1) 0 0 226 [.ref a, .ref x0, .int o31] [am_rv (am_rs r32 a 17), .int 0, .ref c33] (N32, am_ts T32, (am_u (am_u (am_u I27 a 13 (I27 x0 13)) a 15 ((am_u I27 a 13 (I27 x0 13)) x0 15)) a 16 ((am_u (am_u I27 a 13 (I27 x0 13)) a 15 ((am_u I27 a 13 (I27 x0 13)) x0 15)) x0 16)), L, am_rs r32) Q) else False) from ?_)
    refine am_ifp ⟨hw.1, by decide⟩ ?_
    replace hw := hw.2
    obtain ⟨c34, hx, hw⟩ := hw
    rw [hx]
    refine am_E.run [231] 2000 (show (if (am_ts T32 a).1 = 7 ∧ 2 < 4 then (am_E S 80 (d + 1) 0 0 231 [.ref a, .ref x0, .int o31] [am_rv (am_rs r32 a 17), .int 0, .ref c34, .int 0, .ref c33] (N32, am_ts T32, (am_u (am_u (am_u I27 a 13 (I27 x0 13)) a 15 ((am_u I27 a 13 (I27 x0 13)) x0 15)) a 16 ((am_u (am_u I27 a 13 (I27 x0 13)) a 15 ((am_u I27 a 13 (I27 x0 13)) x0 15)) x0 16)), L, am_rs r32) Q) else False) from ?_)
    refine am_ifp ⟨hw.1, by decide⟩ ?_
    replace hw := hw.2
    obtain ⟨c35, hx, hw⟩ := hw
    rw [hx]
    refine am_E.run [235] 2000 (show (if 20 ≤ (am_ts T32 c35).1 ∧ (am_ts T32 c35).1 ≤ 24 then (if (am_ts T32 c33).1 = 20 ∧ (am_ts T32 c34).1 = 20 ∧ ¬ (0 : Int32) < 0 ∧ ¬ (0 : Int32) < 0 ∧ ¬ (Int32.ofNat (am_ts T32 c35).2) < 0 ∧ (Int32.toNatClampNeg (0 : Int32)) + (Int32.toNatClampNeg (Int32.ofNat (am_ts T32 c35).2)) ≤ (am_ts T32 c33).2 ∧ (Int32.toNatClampNeg (0 : Int32)) + (Int32.toNatClampNeg (Int32.ofNat (am_ts T32 c35).2)) ≤ (am_ts T32 c34).2 ∧ 0 ≤ 8 then (am_E S 80 (d + 1) 0 0 235 [.ref a, .ref x0, .int o31] [] (N32, am_ts T32, (am_ci (am_u (am_u (am_u I27 a 13 (I27 x0 13)) a 15 ((am_u I27 a 13 (I27 x0 13)) x0 15)) a 16 ((am_u (am_u I27 a 13 (I27 x0 13)) a 15 ((am_u I27 a 13 (I27 x0 13)) x0 15)) x0 16)) c33 c34 (Int32.toNatClampNeg (0 : Int32)) (Int32.toNatClampNeg (0 : Int32)) (Int32.toNatClampNeg (Int32.ofNat (am_ts T32 c35).2))), L, am_rs r32) Q) else False) else False) from ?_)
    refine am_ifp hw.1 ?_
    replace hw := hw.2
    refine am_ifp ⟨hw.1.1, hw.1.2.1, hw.1.2.2.1, hw.1.2.2.2.1, hw.1.2.2.2.2.1, hw.1.2.2.2.2.2.1, hw.1.2.2.2.2.2.2, by decide⟩ ?_
    replace hw := hw.2
    obtain ⟨I36, hI, hw⟩ := hw
    rw [← hI]
    refine am_E.run [] 2000 (show (if (am_ts T32 x0).1 = 7 ∧ 0 < 4 then (if (am_ts T32 a).1 = 7 then (True ∧ Q (none) (N32, am_ts T32, (am_u I36 a 18 (I36 x0 18)), L, am_rs r32)) else False) else False) from ?_)
    refine am_ifp ⟨hw.1, by decide⟩ ?_
    replace hw := hw.2
    refine am_ifp hw.1 ?_
    replace hw := hw.2
    exact ⟨trivial, hK _ _ _ _ hw⟩
