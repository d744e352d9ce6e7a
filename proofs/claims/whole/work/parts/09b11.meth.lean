def lw_276_4 : Nat → Int32 → Int32 → am_I → (Int32 → Int32 → Prop) → Prop
  | 0, _, _, _, _ => False
  | n + 1, v1, v2, I, E0 =>
    if (6 : Int32) ≤ v2 then
      E0 v1 v2
    else
      w_275 v2 I (fun q1 =>
        lw_276_4 n (v1 + q1) (v2 + 1) I E0)
set_option maxRecDepth 100000 in
theorem sl_276_4 {S : am_S} {d : Nat} {Q : am_Q} {N : Nat} {T : Nat → Nat × Nat} {I : am_I} {L : am_J} {r : Nat → Nat → Option Nat} {E0 : Int32 → Int32 → Prop} : ∀ (n : Nat) {v1 : Int32} {v2 : Int32}, lw_276_4 n v1 v2 I E0 → (∀ (o1 : Int32) (o2 : Int32), E0 o1 o2 → am_E S 276 (d + 1) 0 0 24 [.ref 66, .int o1, .int o2] [] (N, am_ts T, I, L, am_rs r) Q) → am_E S 276 (d + 1) 0 0 4 [.ref 66, .int v1, .int v2] [] (N, am_ts T, I, L, am_rs r) Q
  | 0, _, _, hw, _ => hw.elim
  | n + 1, v1, v2, hw, hE0 => by
    have ih := @sl_276_4 S d Q N T I L r E0 n
    unfold lw_276_4 at hw
    try dsimp only at hw
    refine am_E.run [13, 24] 2000 (show (if (6 : Int32) ≤ v2 then (am_E S 276 (d + 1) 0 0 24 [.ref 66, .int v1, .int v2] [] (N, am_ts T, I, L, am_rs r) Q) else (am_E S 276 (d + 1) 0 0 13 [.ref 66, .int v1, .int v2] [.int v2, .ref 66, .int v1] (N, am_ts T, I, L, am_rs r) Q)) from ?_)
    by_cases hc : (6 : Int32) ≤ v2
    · rw [if_pos hc] at hw ⊢
      exact hE0 _ _ hw
    · rw [if_neg hc] at hw ⊢
      refine am_E.go ⟨am_ki_ N T I L r _, s_275 hw (fun q1 hk => ⟨q1, rfl, rfl, hk⟩), ?_⟩
      intro v h9 hv
      obtain ⟨q1, rfl, rfl, hw⟩ := hv
      try dsimp only at hw
      refine am_E.run [4] 2000 (show (am_E S 276 (d + 1) 0 0 4 [.ref 66, .int (v1 + q1), .int (v2 + 1)] [] (N, am_ts T, I, L, am_rs r) Q) from ?_)
      exact ih hw hE0
def lw_276_49 : Nat → Int32 → am_I → (Int32 → am_I → Prop) → Prop
  | 0, _, _, _ => False
  | n + 1, v2, I, E0 =>
    if (6 : Int32) ≤ v2 then
      E0 v2 I
    else
      ¬ (v2 < 0 ∨ 7 ≤ Int32.toNatClampNeg v2) ∧
      ¬ (v2 < 0 ∨ 6 ≤ Int32.toNatClampNeg v2) ∧
      lw_276_49 n (v2 + 1) (am_u I 90 (Int32.toNatClampNeg v2) (I 89 (Int32.toNatClampNeg v2))) E0
set_option maxRecDepth 100000 in
theorem sl_276_49 {S : am_S} {d : Nat} {Q : am_Q} {N : Nat} {T : Nat → Nat × Nat} {L : am_J} {r : Nat → Nat → Option Nat} {E0 : Int32 → am_I → Prop} : ∀ (n : Nat) {v2 : Int32} {I : am_I}, lw_276_49 n v2 I E0 → (∀ (o2 : Int32) (I1 : am_I), E0 o2 I1 → am_E S 276 (d + 1) 0 0 73 [.ref 66, am_jk, .int o2] [] (N, am_ts T, I1, L, am_rs r) Q) → am_E S 276 (d + 1) 0 0 49 [.ref 66, am_jk, .int v2] [] (N, am_ts T, I, L, am_rs r) Q
  | 0, _, _, hw, _ => hw.elim
  | n + 1, v2, I, hw, hE0 => by
    have ih := @sl_276_49 S d Q N T L r E0 n
    unfold lw_276_49 at hw
    try dsimp only at hw
    refine am_E.run [49, 73] 2000 (show (if (6 : Int32) ≤ v2 then (am_E S 276 (d + 1) 0 0 73 [.ref 66, am_jk, .int v2] [] (N, am_ts T, I, L, am_rs r) Q) else (if v2 < 0 ∨ 7 ≤ Int32.toNatClampNeg v2 then False else (if v2 < 0 ∨ 6 ≤ Int32.toNatClampNeg v2 then False else (am_E S 276 (d + 1) 0 0 49 [.ref 66, am_jk, .int (v2 + 1)] [] (N, am_ts T, (am_u I 90 (Int32.toNatClampNeg v2) (I 89 (Int32.toNatClampNeg v2))), L, am_rs r) Q)))) from ?_)
    by_cases hc : (6 : Int32) ≤ v2
    · rw [if_pos hc] at hw ⊢
      exact hE0 _ _ hw
    · rw [if_neg hc] at hw ⊢
      refine am_ifn hw.1 ?_
      replace hw := hw.2
      refine am_ifn hw.1 ?_
      replace hw := hw.2
      exact ih hw hE0
/-- KeyKeepersModel.weighRota()V -/
def w_276 (I : am_I) (K : am_I → Prop) : Prop :=
  ∃ n4, lw_276_4 n4 0 0 I (fun o2 o3 =>
    if (I 66 47) ≤ o2 then
      K (am_u I 66 46 ((I 66 46) + 1))
    else
      ∃ n49, lw_276_49 n49 0 (am_u (am_u I 66 46 ((I 66 46) + 1)) 66 47 o2) (fun o4 I5 =>
        K I5))
set_option maxRecDepth 100000 in
theorem s_276 {S : am_S} {d : Nat} {N : Nat} {T : Nat → Nat × Nat} {I : am_I} {L : am_J} {r : Nat → Nat → Option Nat} {Q : am_Q} {K : am_I → Prop} (hw : w_276 I K) (hK : ∀ (I1 : am_I), K I1 → Q (none) (N, am_ts T, I1, L, am_rs r)) : am_E S 276 (d + 1) 0 0 0 [.ref 66, am_jk, am_jk] [] (N, am_ts T, I, L, am_rs r) Q := by
  unfold w_276 at hw
  try dsimp only at hw
  refine am_E.run [4] 2000 (show (am_E S 276 (d + 1) 0 0 4 [.ref 66, .int 0, .int 0] [] (N, am_ts T, I, L, am_rs r) Q) from ?_)
  obtain ⟨n4, hw⟩ := hw
  refine sl_276_4 n4 hw (fun o2 o3 hw => ?_)
  · try dsimp only at hw
    refine am_E.run [49] 2000 (show (if (I 66 47) ≤ o2 then (True ∧ Q (none) (N, am_ts T, (am_u I 66 46 ((I 66 46) + 1)), L, am_rs r)) else (am_E S 276 (d + 1) 0 0 49 [.ref 66, .int o2, .int 0] [] (N, am_ts T, (am_u (am_u I 66 46 ((I 66 46) + 1)) 66 47 o2), L, am_rs r) Q)) from ?_)
    by_cases hc : (I 66 47) ≤ o2
    · rw [if_pos hc] at hw ⊢
      exact ⟨trivial, hK _ hw⟩
    · rw [if_neg hc] at hw ⊢
      obtain ⟨n49, hw⟩ := hw
      refine am_E.junk (lo := [.ref 66, am_jk, .int 0]) ?_ (am_le.cons (am_le.jk (am_le.cons am_le.nil)))
      refine sl_276_49 n49 hw (fun o4 I5 hw => ?_)
      · try dsimp only at hw
        refine am_E.run [] 2000 (show (True ∧ Q (none) (N, am_ts T, I5, L, am_rs r)) from ?_)
        exact ⟨trivial, hK _ hw⟩
def lw_280_4 : Nat → Int32 → Int32 → Int32 → am_I → (Int32 → Int32 → Prop) → Prop
  | 0, _, _, _, _, _ => False
  | n + 1, v1, v2, v3, I, E0 =>
    if v1 ≤ v3 then
      E0 v2 v3
    else
      ¬ (v3 < 0 ∨ 6 ≤ Int32.toNatClampNeg v3) ∧
      lw_280_4 n v1 (v2 ||| (1 <<< ((I 93 (Int32.toNatClampNeg v3)) &&& 31))) (v3 + 1) I E0
set_option maxRecDepth 100000 in
theorem sl_280_4 {S : am_S} {d : Nat} {Q : am_Q} {N : Nat} {T : Nat → Nat × Nat} {I : am_I} {L : am_J} {r : Nat → Nat → Option Nat} {E0 : Int32 → Int32 → Prop} : ∀ (n : Nat) {v1 : Int32} {v2 : Int32} {v3 : Int32}, lw_280_4 n v1 v2 v3 I E0 → (∀ (o2 : Int32) (o3 : Int32), E0 o2 o3 → am_E S 280 (d + 2) 0 0 26 [.ref 66, .int v1, .int o2, .int o3, am_jk, am_jk] [] (N, am_ts T, I, L, am_rs r) Q) → am_E S 280 (d + 2) 0 0 4 [.ref 66, .int v1, .int v2, .int v3, am_jk, am_jk] [] (N, am_ts T, I, L, am_rs r) Q
  | 0, _, _, _, hw, _ => hw.elim
  | n + 1, v1, v2, v3, hw, hE0 => by
    have ih := @sl_280_4 S d Q N T I L r E0 n
    unfold lw_280_4 at hw
    try dsimp only at hw
    refine am_E.run [4, 26] 2000 (show (if v1 ≤ v3 then (am_E S 280 (d + 2) 0 0 26 [.ref 66, .int v1, .int v2, .int v3, am_jk, am_jk] [] (N, am_ts T, I, L, am_rs r) Q) else (if v3 < 0 ∨ 6 ≤ Int32.toNatClampNeg v3 then False else (am_E S 280 (d + 2) 0 0 4 [.ref 66, .int v1, .int (v2 ||| (1 <<< ((I 93 (Int32.toNatClampNeg v3)) &&& 31))), .int (v3 + 1), am_jk, am_jk] [] (N, am_ts T, I, L, am_rs r) Q))) from ?_)
    by_cases hc : v1 ≤ v3
    · rw [if_pos hc] at hw ⊢
      exact hE0 _ _ hw
    · rw [if_neg hc] at hw ⊢
      refine am_ifn hw.1 ?_
      replace hw := hw.2
      exact ih hw hE0
def lw_280_63 : Nat → Int32 → Int32 → Int32 → Int32 → am_I → (Int32 → Int32 → Prop) → Prop
  | 0, _, _, _, _, _, _ => False
  | n + 1, v2, v3, v4, v5, I, E0 =>
    if v4 ≤ v5 then
      E0 v3 v5
    else
      if v3 = 0 then
        lw_280_63 n v2 0 v4 (v5 + 1) I E0
      else
        if (f_248 v2 v4) = 0 then
          lw_280_63 n v2 1 v4 (v5 + 1) I E0
        else
          if (f_248 v2 v5) = 0 then
            lw_280_63 n v2 1 v4 (v5 + 1) I E0
          else
            w_249 v4 v5 I (fun q5 =>
              if q5 = 0 then
                lw_280_63 n v2 1 v4 (v5 + 1) I E0
              else
                w_249 v5 v4 I (fun q6 =>
                  if q6 = 0 then
                    lw_280_63 n v2 1 v4 (v5 + 1) I E0
                  else
                    lw_280_63 n v2 0 v4 (v5 + 1) I E0))
set_option maxRecDepth 100000 in
theorem sl_280_63 {S : am_S} {d : Nat} {Q : am_Q} {N : Nat} {T : Nat → Nat × Nat} {I : am_I} {L : am_J} {r : Nat → Nat → Option Nat} {E0 : Int32 → Int32 → Prop} : ∀ (n : Nat) {v2 : Int32} {v3 : Int32} {v4 : Int32} {v5 : Int32}, lw_280_63 n v2 v3 v4 v5 I E0 → (∀ (o3 : Int32) (o5 : Int32), E0 o3 o5 → am_E S 280 (d + 2) 0 0 126 [.ref 66, am_jk, .int v2, .int o3, .int v4, .int o5] [] (N, am_ts T, I, L, am_rs r) Q) → am_E S 280 (d + 2) 0 0 63 [.ref 66, am_jk, .int v2, .int v3, .int v4, .int v5] [] (N, am_ts T, I, L, am_rs r) Q
  | 0, _, _, _, _, hw, _ => hw.elim
  | n + 1, v2, v3, v4, v5, hw, hE0 => by
    have ih := @sl_280_63 S d Q N T I L r E0 n
    unfold lw_280_63 at hw
    try dsimp only at hw
    refine am_E.run [63, 77, 126] 2000 (show (if v4 ≤ v5 then (am_E S 280 (d + 2) 0 0 126 [.ref 66, am_jk, .int v2, .int v3, .int v4, .int v5] [] (N, am_ts T, I, L, am_rs r) Q) else (if v3 = 0 then (am_E S 280 (d + 2) 0 0 63 [.ref 66, am_jk, .int v2, .int 0, .int v4, .int (v5 + 1)] [] (N, am_ts T, I, L, am_rs r) Q) else (am_E S 280 (d + 2) 0 0 77 [.ref 66, am_jk, .int v2, .int v3, .int v4, .int v5] [.int v4, .int v2] (N, am_ts T, I, L, am_rs r) Q))) from ?_)
    by_cases hc : v4 ≤ v5
    · rw [if_pos hc] at hw ⊢
      exact hE0 _ _ hw
    · rw [if_neg hc] at hw ⊢
      by_cases hc : v3 = 0
      · rw [if_pos hc] at hw ⊢
        exact ih hw hE0
      · rw [if_neg hc] at hw ⊢
        refine am_E.go ⟨fun v h9 => v = some (.int (f_248 v2 v4)) ∧ h9 = (N, am_ts T, I, L, am_rs r), s_248 ⟨rfl, rfl⟩, ?_⟩
        intro v h9 hv
        obtain ⟨rfl, rfl⟩ := hv
        refine am_E.run [63, 86] 2000 (show (if (f_248 v2 v4) = 0 then (am_E S 280 (d + 2) 0 0 63 [.ref 66, am_jk, .int v2, .int 1, .int v4, .int (v5 + 1)] [] (N, am_ts T, I, L, am_rs r) Q) else (am_E S 280 (d + 2) 0 0 86 [.ref 66, am_jk, .int v2, .int v3, .int v4, .int v5] [.int v5, .int v2] (N, am_ts T, I, L, am_rs r) Q)) from ?_)
        by_cases hc : (f_248 v2 v4) = 0
        · rw [if_pos hc] at hw ⊢
          exact ih hw hE0
        · rw [if_neg hc] at hw ⊢
          refine am_E.go ⟨fun v h9 => v = some (.int (f_248 v2 v5)) ∧ h9 = (N, am_ts T, I, L, am_rs r), s_248 ⟨rfl, rfl⟩, ?_⟩
          intro v h9 hv
          obtain ⟨rfl, rfl⟩ := hv
          refine am_E.run [63, 97] 2000 (show (if (f_248 v2 v5) = 0 then (am_E S 280 (d + 2) 0 0 63 [.ref 66, am_jk, .int v2, .int 1, .int v4, .int (v5 + 1)] [] (N, am_ts T, I, L, am_rs r) Q) else (am_E S 280 (d + 2) 0 0 97 [.ref 66, am_jk, .int v2, .int v3, .int v4, .int v5] [.int v5, .int v4, .ref 66] (N, am_ts T, I, L, am_rs r) Q)) from ?_)
          by_cases hc : (f_248 v2 v5) = 0
          · rw [if_pos hc] at hw ⊢
            exact ih hw hE0
          · rw [if_neg hc] at hw ⊢
            refine am_E.go ⟨am_ki_ N T I L r _, s_249 hw (fun q5 hk => ⟨q5, rfl, rfl, hk⟩), ?_⟩
            intro v h9 hv
            obtain ⟨q5, rfl, rfl, hw⟩ := hv
            try dsimp only at hw
            refine am_E.run [63, 108] 2000 (show (if q5 = 0 then (am_E S 280 (d + 2) 0 0 63 [.ref 66, am_jk, .int v2, .int 1, .int v4, .int (v5 + 1)] [] (N, am_ts T, I, L, am_rs r) Q) else (am_E S 280 (d + 2) 0 0 108 [.ref 66, am_jk, .int v2, .int v3, .int v4, .int v5] [.int v4, .int v5, .ref 66] (N, am_ts T, I, L, am_rs r) Q)) from ?_)
            by_cases hc : q5 = 0
            · rw [if_pos hc] at hw ⊢
              exact ih hw hE0
            · rw [if_neg hc] at hw ⊢
              refine am_E.go ⟨am_ki_ N T I L r _, s_249 hw (fun q6 hk => ⟨q6, rfl, rfl, hk⟩), ?_⟩
              intro v h9 hv
              obtain ⟨q6, rfl, rfl, hw⟩ := hv
              try dsimp only at hw
              refine am_E.run [63] 2000 (show (if q6 = 0 then (am_E S 280 (d + 2) 0 0 63 [.ref 66, am_jk, .int v2, .int 1, .int v4, .int (v5 + 1)] [] (N, am_ts T, I, L, am_rs r) Q) else (am_E S 280 (d + 2) 0 0 63 [.ref 66, am_jk, .int v2, .int 0, .int v4, .int (v5 + 1)] [] (N, am_ts T, I, L, am_rs r) Q)) from ?_)
              by_cases hc : q6 = 0
              · rw [if_pos hc] at hw ⊢
                exact ih hw hE0
              · rw [if_neg hc] at hw ⊢
                exact ih hw hE0
def lw_280_41 : Nat → Int32 → Int32 → Int32 → am_I → (Int32 → Int32 → Prop) → Prop
  | 0, _, _, _, _, _ => False
  | n + 1, v2, v3, v4, I, E0 =>
    if (I 68 1) ≤ v4 then
      E0 v3 v4
    else
      w_236 v2 (fun q4 =>
        if q4 = 2 then
          ∃ n63, lw_280_63 n63 v2 v3 v4 0 I (fun o7 o8 =>
            lw_280_41 n v2 o7 (v4 + 1) I E0)
        else
          E0 v3 v4)
set_option maxRecDepth 100000 in
theorem sl_280_41 {S : am_S} {d : Nat} {Q : am_Q} {N : Nat} {T : Nat → Nat × Nat} {I : am_I} {L : am_J} {r : Nat → Nat → Option Nat} {E0 : Int32 → Int32 → Prop} : ∀ (n : Nat) {v2 : Int32} {v3 : Int32} {v4 : Int32}, lw_280_41 n v2 v3 v4 I E0 → (∀ (o3 : Int32) (o4 : Int32), E0 o3 o4 → am_E S 280 (d + 2) 0 0 132 [.ref 66, am_jk, .int v2, .int o3, .int o4, am_jk] [] (N, am_ts T, I, L, am_rs r) Q) → am_E S 280 (d + 2) 0 0 41 [.ref 66, am_jk, .int v2, .int v3, .int v4, am_jk] [] (N, am_ts T, I, L, am_rs r) Q
  | 0, _, _, _, hw, _ => hw.elim
  | n + 1, v2, v3, v4, hw, hE0 => by
    have ih := @sl_280_41 S d Q N T I L r E0 n
    unfold lw_280_41 at hw
    try dsimp only at hw
    refine am_E.run [53, 132] 2000 (show (if (I 68 1) ≤ v4 then (am_E S 280 (d + 2) 0 0 132 [.ref 66, am_jk, .int v2, .int v3, .int v4, am_jk] [] (N, am_ts T, I, L, am_rs r) Q) else (am_E S 280 (d + 2) 0 0 53 [.ref 66, am_jk, .int v2, .int v3, .int v4, am_jk] [.int v2] (N, am_ts T, I, L, am_rs r) Q)) from ?_)
    by_cases hc : (I 68 1) ≤ v4
    · rw [if_pos hc] at hw ⊢
      exact hE0 _ _ hw
    · rw [if_neg hc] at hw ⊢
      refine am_E.go ⟨am_ki_ N T I L r _, s_236 hw (fun q4 hk => ⟨q4, rfl, rfl, hk⟩), ?_⟩
      intro v h9 hv
      obtain ⟨q4, rfl, rfl, hw⟩ := hv
      try dsimp only at hw
      refine am_E.run [63, 132] 2000 (show (if q4 = 2 then (am_E S 280 (d + 2) 0 0 63 [.ref 66, am_jk, .int v2, .int v3, .int v4, .int 0] [] (N, am_ts T, I, L, am_rs r) Q) else (am_E S 280 (d + 2) 0 0 132 [.ref 66, am_jk, .int v2, .int v3, .int v4, am_jk] [] (N, am_ts T, I, L, am_rs r) Q)) from ?_)
      by_cases hc : q4 = 2
      · rw [if_pos hc] at hw ⊢
        obtain ⟨n63, hw⟩ := hw
        refine sl_280_63 n63 hw (fun o7 o8 hw => ?_)
        · try dsimp only at hw
          refine am_E.run [41] 2000 (show (am_E S 280 (d + 2) 0 0 41 [.ref 66, am_jk, .int v2, .int o7, .int (v4 + 1), .int o8] [] (N, am_ts T, I, L, am_rs r) Q) from ?_)
          exact am_E.junk (ih hw hE0) (am_le.cons (am_le.cons (am_le.cons (am_le.cons (am_le.cons (am_le.jk am_le.nil))))))
      · rw [if_neg hc] at hw ⊢
        exact hE0 _ _ hw
/-- KeyKeepersModel.areParted(I)Z -/
def w_280 (x0 : Int32) (I : am_I) (K : Int32 → Prop) : Prop :=
  ∃ n4, lw_280_4 n4 x0 0 0 I (fun o1 o2 =>
    w_236 o1 (fun q3 =>
      if q3 = 1 then
        K 0
      else
        ∃ n41, lw_280_41 n41 o1 1 0 I (fun o9 o10 =>
          (o9 = 0 ∨ o9 = 1) ∧ K o9)))
set_option maxRecDepth 100000 in
theorem s_280 {S : am_S} {d : Nat} {N : Nat} {T : Nat → Nat × Nat} {I : am_I} {L : am_J} {r : Nat → Nat → Option Nat} {Q : am_Q} {x0 : Int32} {K : Int32 → Prop} (hw : w_280 x0 I K) (hK : ∀ (q : Int32), K q → Q (some (.int q)) (N, am_ts T, I, L, am_rs r)) : am_E S 280 (d + 2) 0 0 0 [.ref 66, .int x0, am_jk, am_jk, am_jk, am_jk] [] (N, am_ts T, I, L, am_rs r) Q := by
  unfold w_280 at hw
  try dsimp only at hw
  refine am_E.run [4] 2000 (show (am_E S 280 (d + 2) 0 0 4 [.ref 66, .int x0, .int 0, .int 0, am_jk, am_jk] [] (N, am_ts T, I, L, am_rs r) Q) from ?_)
  obtain ⟨n4, hw⟩ := hw
  refine sl_280_4 n4 hw (fun o1 o2 hw => ?_)
  · try dsimp only at hw
    refine am_E.run [27] 2000 (show (am_E S 280 (d + 2) 0 0 27 [.ref 66, .int x0, .int o1, .int o2, am_jk, am_jk] [.int o1] (N, am_ts T, I, L, am_rs r) Q) from ?_)
    refine am_E.go ⟨am_ki_ N T I L r _, s_236 hw (fun q3 hk => ⟨q3, rfl, rfl, hk⟩), ?_⟩
    intro v h9 hv
    obtain ⟨q3, rfl, rfl, hw⟩ := hv
    try dsimp only at hw
    refine am_E.run [41] 2000 (show (if q3 = 1 then (((0 : Int32) = 0 ∨ (0 : Int32) = 1) ∧ Q (some (.int 0)) (N, am_ts T, I, L, am_rs r)) else (am_E S 280 (d + 2) 0 0 41 [.ref 66, .int x0, .int o1, .int 1, .int 0, am_jk] [] (N, am_ts T, I, L, am_rs r) Q)) from ?_)
    by_cases hc : q3 = 1
    · rw [if_pos hc] at hw ⊢
      exact ⟨Or.inl rfl, hK _ hw⟩
    · rw [if_neg hc] at hw ⊢
      obtain ⟨n41, hw⟩ := hw
      refine am_E.junk (lo := [.ref 66, am_jk, .int o1, .int 1, .int 0, am_jk]) ?_ (am_le.cons (am_le.jk (am_le.cons (am_le.cons (am_le.cons (am_le.cons am_le.nil))))))
      refine sl_280_41 n41 hw (fun o9 o10 hw => ?_)
      · try dsimp only at hw
        refine am_E.run [] 2000 (show ((o9 = 0 ∨ o9 = 1) ∧ Q (some (.int o9)) (N, am_ts T, I, L, am_rs r)) from ?_)
        exact ⟨hw.1, hK _ hw.2⟩
/-- KeyKeepersModel.tally(II)I -/
def w_281 (x0 : Int32) (x1 : Int32) (I : am_I) (K : Int32 → am_I → Prop) : Prop :=
  if (f_182 (Int32.toInt64 x0) 0 ((1 <<< (Int32.toInt64 (I 68 1) &&& 63)) - 1)) = 0 then
    w_179 (-1) (am_u I 66 0 0) (fun q1 I2 =>
      K q1 I2)
  else
    w_236 x0 (fun q3 =>
      if (f_182 (Int32.toInt64 x1) 0 (Int32.toInt64 q3)) = 0 then
        w_179 (-1) (am_u I 66 0 0) (fun q8 I9 =>
          K q8 I9)
      else
        if (I 68 2) = 8 then
          w_179 (-5) (am_u I 66 0 0) (fun q6 I7 =>
            K q6 I7)
        else
          ¬ ((94 + (2 * (I 68 2))) < 0 ∨ 5510 ≤ Int32.toNatClampNeg (94 + (2 * (I 68 2)))) ∧
          ¬ (((94 + (2 * (I 68 2))) + 1) < 0 ∨ 5510 ≤ Int32.toNatClampNeg ((94 + (2 * (I 68 2))) + 1)) ∧
          w_179 ((I 68 2) + 1) (am_u (am_u (am_u (am_u I 66 0 0) 68 (Int32.toNatClampNeg (94 + (2 * (I 68 2)))) x0) 68 (Int32.toNatClampNeg ((94 + (2 * (I 68 2))) + 1)) x1) 68 2 (((am_u (am_u (am_u I 66 0 0) 68 (Int32.toNatClampNeg (94 + (2 * (I 68 2)))) x0) 68 (Int32.toNatClampNeg ((94 + (2 * (I 68 2))) + 1)) x1) 68 2) + 1)) (fun q4 I5 =>
            K q4 I5))
set_option maxRecDepth 100000 in
theorem s_281 {S : am_S} {d : Nat} {N : Nat} {T : Nat → Nat × Nat} {I : am_I} {L : am_J} {r : Nat → Nat → Option Nat} {Q : am_Q} {x0 : Int32} {x1 : Int32} {K : Int32 → am_I → Prop} (hw : w_281 x0 x1 I K) (hK : ∀ (q : Int32) (I1 : am_I), K q I1 → Q (some (.int q)) (N, am_ts T, I1, L, am_rs r)) : am_E S 281 (d + 1) 0 0 0 [.ref 66, .int x0, .int x1, am_jk] [] (N, am_ts T, I, L, am_rs r) Q := by
  unfold w_281 at hw
  try dsimp only at hw
  refine am_E.run [18] 2000 (show (am_E S 281 (d + 1) 0 0 18 [.ref 66, .int x0, .int x1, am_jk] [.long ((1 <<< (Int32.toInt64 (I 68 1) &&& 63)) - 1), .long 0, .long (Int32.toInt64 x0)] (N, am_ts T, (am_u I 66 0 0), L, am_rs r) Q) from ?_)
  refine am_E.go ⟨fun v h9 => v = some (.int (f_182 (Int32.toInt64 x0) 0 ((1 <<< (Int32.toInt64 (I 68 1) &&& 63)) - 1))) ∧ h9 = (N, am_ts T, (am_u I 66 0 0), L, am_rs r), s_182 ⟨rfl, rfl⟩, ?_⟩
  intro v h9 hv
  obtain ⟨rfl, rfl⟩ := hv
  refine am_E.run [28, 40] 2000 (show (if (f_182 (Int32.toInt64 x0) 0 ((1 <<< (Int32.toInt64 (I 68 1) &&& 63)) - 1)) = 0 then (am_E S 281 (d + 1) 0 0 40 [.ref 66, .int x0, .int x1, am_jk] [.int (-1), .ref 66] (N, am_ts T, (am_u I 66 0 0), L, am_rs r) Q) else (am_E S 281 (d + 1) 0 0 28 [.ref 66, .int x0, .int x1, am_jk] [.int x0, .long 0, .long (Int32.toInt64 x1)] (N, am_ts T, (am_u I 66 0 0), L, am_rs r) Q)) from ?_)
  by_cases hc : (f_182 (Int32.toInt64 x0) 0 ((1 <<< (Int32.toInt64 (I 68 1) &&& 63)) - 1)) = 0
  · rw [if_pos hc] at hw ⊢
    refine am_E.go ⟨am_ki_I N T L r _, s_179 hw (fun q1 I2 hk => ⟨q1, I2, rfl, rfl, hk⟩), ?_⟩
    intro v h9 hv
    obtain ⟨q1, I2, rfl, rfl, hw⟩ := hv
    try dsimp only at hw
    refine am_E.run [] 2000 (show (True ∧ Q (some (.int q1)) (N, am_ts T, I2, L, am_rs r)) from ?_)
    exact ⟨trivial, hK _ _ hw⟩
  · rw [if_neg hc] at hw ⊢
    refine am_E.go ⟨am_ki_ N T (am_u I 66 0 0) L r _, s_236 hw (fun q3 hk => ⟨q3, rfl, rfl, hk⟩), ?_⟩
    intro v h9 hv
    obtain ⟨q3, rfl, rfl, hw⟩ := hv
    try dsimp only at hw
    refine am_E.run [32] 2000 (show (am_E S 281 (d + 1) 0 0 32 [.ref 66, .int x0, .int x1, am_jk] [.long (Int32.toInt64 q3), .long 0, .long (Int32.toInt64 x1)] (N, am_ts T, (am_u I 66 0 0), L, am_rs r) Q) from ?_)
    refine am_E.go ⟨fun v h9 => v = some (.int (f_182 (Int32.toInt64 x1) 0 (Int32.toInt64 q3))) ∧ h9 = (N, am_ts T, (am_u I 66 0 0), L, am_rs r), s_182 ⟨rfl, rfl⟩, ?_⟩
    intro v h9 hv
    obtain ⟨rfl, rfl⟩ := hv
    refine am_E.run [40, 60, 104] 2000 (show (if (f_182 (Int32.toInt64 x1) 0 (Int32.toInt64 q3)) = 0 then (am_E S 281 (d + 1) 0 0 40 [.ref 66, .int x0, .int x1, am_jk] [.int (-1), .ref 66] (N, am_ts T, (am_u I 66 0 0), L, am_rs r) Q) else (if (I 68 2) = 8 then (am_E S 281 (d + 1) 0 0 60 [.ref 66, .int x0, .int x1, .int (I 68 2)] [.int (-5), .ref 66] (N, am_ts T, (am_u I 66 0 0), L, am_rs r) Q) else (if (94 + (2 * (I 68 2))) < 0 ∨ 5510 ≤ Int32.toNatClampNeg (94 + (2 * (I 68 2))) then False else (if ((94 + (2 * (I 68 2))) + 1) < 0 ∨ 5510 ≤ Int32.toNatClampNeg ((94 + (2 * (I 68 2))) + 1) then False else (am_E S 281 (d + 1) 0 0 104 [.ref 66, .int x0, .int x1, .int (I 68 2)] [.int ((I 68 2) + 1), .ref 66] (N, am_ts T, (am_u (am_u (am_u (am_u I 66 0 0) 68 (Int32.toNatClampNeg (94 + (2 * (I 68 2)))) x0) 68 (Int32.toNatClampNeg ((94 + (2 * (I 68 2))) + 1)) x1) 68 2 (((am_u (am_u (am_u I 66 0 0) 68 (Int32.toNatClampNeg (94 + (2 * (I 68 2)))) x0) 68 (Int32.toNatClampNeg ((94 + (2 * (I 68 2))) + 1)) x1) 68 2) + 1)), L, am_rs r) Q))))) from ?_)
    by_cases hc : (f_182 (Int32.toInt64 x1) 0 (Int32.toInt64 q3)) = 0
    · rw [if_pos hc] at hw ⊢
      refine am_E.go ⟨am_ki_I N T L r _, s_179 hw (fun q8 I9 hk => ⟨q8, I9, rfl, rfl, hk⟩), ?_⟩
      intro v h9 hv
      obtain ⟨q8, I9, rfl, rfl, hw⟩ := hv
      try dsimp only at hw
      refine am_E.run [] 2000 (show (True ∧ Q (some (.int q8)) (N, am_ts T, I9, L, am_rs r)) from ?_)
      exact ⟨trivial, hK _ _ hw⟩
    · rw [if_neg hc] at hw ⊢
      by_cases hc : (I 68 2) = 8
      · rw [if_pos hc] at hw ⊢
        refine am_E.go ⟨am_ki_I N T L r _, s_179 hw (fun q6 I7 hk => ⟨q6, I7, rfl, rfl, hk⟩), ?_⟩
        intro v h9 hv
        obtain ⟨q6, I7, rfl, rfl, hw⟩ := hv
        try dsimp only at hw
        refine am_E.run [] 2000 (show (True ∧ Q (some (.int q6)) (N, am_ts T, I7, L, am_rs r)) from ?_)
        exact ⟨trivial, hK _ _ hw⟩
      · rw [if_neg hc] at hw ⊢
        refine am_ifn hw.1 ?_
        replace hw := hw.2
        refine am_ifn hw.1 ?_
        replace hw := hw.2
        refine am_E.go ⟨am_ki_I N T L r _, s_179 hw (fun q4 I5 hk => ⟨q4, I5, rfl, rfl, hk⟩), ?_⟩
        intro v h9 hv
        obtain ⟨q4, I5, rfl, rfl, hw⟩ := hv
        try dsimp only at hw
        refine am_E.run [] 2000 (show (True ∧ Q (some (.int q4)) (N, am_ts T, I5, L, am_rs r)) from ?_)
        exact ⟨trivial, hK _ _ hw⟩
/-- KeyKeepersModel.forget()I -/
def w_282 (I : am_I) (K : Int32 → am_I → Prop) : Prop :=
  K (I 68 2) (am_u (am_u I 66 0 0) 68 2 0)
set_option maxRecDepth 100000 in
theorem s_282 {S : am_S} {d : Nat} {N : Nat} {T : Nat → Nat × Nat} {I : am_I} {L : am_J} {r : Nat → Nat → Option Nat} {Q : am_Q} {K : Int32 → am_I → Prop} (hw : w_282 I K) (hK : ∀ (q : Int32) (I1 : am_I), K q I1 → Q (some (.int q)) (N, am_ts T, I1, L, am_rs r)) : am_E S 282 (d + 0) 0 0 0 [.ref 66, am_jk] [] (N, am_ts T, I, L, am_rs r) Q := by
  unfold w_282 at hw
  try dsimp only at hw
  refine am_E.run [] 2000 (show (True ∧ Q (some (.int (I 68 2))) (N, am_ts T, (am_u (am_u I 66 0 0) 68 2 0), L, am_rs r)) from ?_)
  exact ⟨trivial, hK _ _ hw⟩
def lw_284_4 : Nat → Int32 → Int32 → Int32 → am_I → (Int32 → Int32 → Prop) → Prop
  | 0, _, _, _, _, _ => False
  | n + 1, v1, v2, v3, I, E0 =>
    if (I 68 2) ≤ v3 then
      E0 v2 v3
    else
      ¬ ((94 + (2 * v3)) < 0 ∨ 5510 ≤ Int32.toNatClampNeg (94 + (2 * v3))) ∧
      if v2 = 0 then
        lw_284_4 n v1 0 (v3 + 1) I E0
      else
        w_236 (I 68 (Int32.toNatClampNeg (94 + (2 * v3)))) (fun q1 =>
          w_236 ((I 68 (Int32.toNatClampNeg (94 + (2 * v3)))) &&& v1) (fun q2 =>
            ¬ (((94 + (2 * v3)) + 1) < 0 ∨ 5510 ≤ Int32.toNatClampNeg ((94 + (2 * v3)) + 1)) ∧
            if (q1 - q2) = (I 68 (Int32.toNatClampNeg ((94 + (2 * v3)) + 1))) then
              lw_284_4 n v1 1 (v3 + 1) I E0
            else
              lw_284_4 n v1 0 (v3 + 1) I E0))
set_option maxRecDepth 100000 in
theorem sl_284_4 {S : am_S} {d : Nat} {Q : am_Q} {N : Nat} {T : Nat → Nat × Nat} {I : am_I} {L : am_J} {r : Nat → Nat → Option Nat} {E0 : Int32 → Int32 → Prop} : ∀ (n : Nat) {v1 : Int32} {v2 : Int32} {v3 : Int32}, lw_284_4 n v1 v2 v3 I E0 → (∀ (o2 : Int32) (o3 : Int32), E0 o2 o3 → am_E S 284 (d + 1) 0 0 72 [.ref 66, .int v1, .int o2, .int o3, am_jk] [] (N, am_ts T, I, L, am_rs r) Q) → am_E S 284 (d + 1) 0 0 4 [.ref 66, .int v1, .int v2, .int v3, am_jk] [] (N, am_ts T, I, L, am_rs r) Q
  | 0, _, _, _, hw, _ => hw.elim
  | n + 1, v1, v2, v3, hw, hE0 => by
    have ih := @sl_284_4 S d Q N T I L r E0 n
    unfold lw_284_4 at hw
    try dsimp only at hw
    refine am_E.run [4, 33, 72] 2000 (show (if (I 68 2) ≤ v3 then (am_E S 284 (d + 1) 0 0 72 [.ref 66, .int v1, .int v2, .int v3, am_jk] [] (N, am_ts T, I, L, am_rs r) Q) else (if (94 + (2 * v3)) < 0 ∨ 5510 ≤ Int32.toNatClampNeg (94 + (2 * v3)) then False else (if v2 = 0 then (am_E S 284 (d + 1) 0 0 4 [.ref 66, .int v1, .int 0, .int (v3 + 1), .int (I 68 (Int32.toNatClampNeg (94 + (2 * v3))))] [] (N, am_ts T, I, L, am_rs r) Q) else (am_E S 284 (d + 1) 0 0 33 [.ref 66, .int v1, .int v2, .int v3, .int (I 68 (Int32.toNatClampNeg (94 + (2 * v3))))] [.int (I 68 (Int32.toNatClampNeg (94 + (2 * v3))))] (N, am_ts T, I, L, am_rs r) Q)))) from ?_)
    by_cases hc : (I 68 2) ≤ v3
    · rw [if_pos hc] at hw ⊢
      exact hE0 _ _ hw
    · rw [if_neg hc] at hw ⊢
      refine am_ifn hw.1 ?_
      replace hw := hw.2
      by_cases hc : v2 = 0
      · rw [if_pos hc] at hw ⊢
        exact am_E.junk (ih hw hE0) (am_le.cons (am_le.cons (am_le.cons (am_le.cons (am_le.jk am_le.nil)))))
      · rw [if_neg hc] at hw ⊢
        refine am_E.go ⟨am_ki_ N T I L r _, s_236 hw (fun q1 hk => ⟨q1, rfl, rfl, hk⟩), ?_⟩
        intro v h9 hv
        obtain ⟨q1, rfl, rfl, hw⟩ := hv
        try dsimp only at hw
        refine am_E.run [40] 2000 (show (am_E S 284 (d + 1) 0 0 40 [.ref 66, .int v1, .int v2, .int v3, .int (I 68 (Int32.toNatClampNeg (94 + (2 * v3))))] [.int ((I 68 (Int32.toNatClampNeg (94 + (2 * v3)))) &&& v1), .int q1] (N, am_ts T, I, L, am_rs r) Q) from ?_)
        refine am_E.go ⟨am_ki_ N T I L r _, s_236 hw (fun q2 hk => ⟨q2, rfl, rfl, hk⟩), ?_⟩
        intro v h9 hv
        obtain ⟨q2, rfl, rfl, hw⟩ := hv
        try dsimp only at hw
        refine am_E.run [4] 2000 (show (if ((94 + (2 * v3)) + 1) < 0 ∨ 5510 ≤ Int32.toNatClampNeg ((94 + (2 * v3)) + 1) then False else (if (q1 - q2) = (I 68 (Int32.toNatClampNeg ((94 + (2 * v3)) + 1))) then (am_E S 284 (d + 1) 0 0 4 [.ref 66, .int v1, .int 1, .int (v3 + 1), .int (I 68 (Int32.toNatClampNeg (94 + (2 * v3))))] [] (N, am_ts T, I, L, am_rs r) Q) else (am_E S 284 (d + 1) 0 0 4 [.ref 66, .int v1, .int 0, .int (v3 + 1), .int (I 68 (Int32.toNatClampNeg (94 + (2 * v3))))] [] (N, am_ts T, I, L, am_rs r) Q))) from ?_)
        refine am_ifn hw.1 ?_
        replace hw := hw.2
        by_cases hc : (q1 - q2) = (I 68 (Int32.toNatClampNeg ((94 + (2 * v3)) + 1)))
        · rw [if_pos hc] at hw ⊢
          exact am_E.junk (ih hw hE0) (am_le.cons (am_le.cons (am_le.cons (am_le.cons (am_le.jk am_le.nil)))))
        · rw [if_neg hc] at hw ⊢
          exact am_E.junk (ih hw hE0) (am_le.cons (am_le.cons (am_le.cons (am_le.cons (am_le.jk am_le.nil)))))
/-- KeyKeepersModel.isAsCounted(I)Z -/
def w_284 (x0 : Int32) (I : am_I) (K : Int32 → Prop) : Prop :=
  ∃ n4, lw_284_4 n4 x0 1 0 I (fun o3 o4 =>
    (o3 = 0 ∨ o3 = 1) ∧ K o3)
set_option maxRecDepth 100000 in
theorem s_284 {S : am_S} {d : Nat} {N : Nat} {T : Nat → Nat × Nat} {I : am_I} {L : am_J} {r : Nat → Nat → Option Nat} {Q : am_Q} {x0 : Int32} {K : Int32 → Prop} (hw : w_284 x0 I K) (hK : ∀ (q : Int32), K q → Q (some (.int q)) (N, am_ts T, I, L, am_rs r)) : am_E S 284 (d + 1) 0 0 0 [.ref 66, .int x0, am_jk, am_jk, am_jk] [] (N, am_ts T, I, L, am_rs r) Q := by
  unfold w_284 at hw
  try dsimp only at hw
  refine am_E.run [4] 2000 (show (am_E S 284 (d + 1) 0 0 4 [.ref 66, .int x0, .int 1, .int 0, am_jk] [] (N, am_ts T, I, L, am_rs r) Q) from ?_)
  obtain ⟨n4, hw⟩ := hw
  refine sl_284_4 n4 hw (fun o3 o4 hw => ?_)
  · try dsimp only at hw
    refine am_E.run [] 2000 (show ((o3 = 0 ∨ o3 = 1) ∧ Q (some (.int o3)) (N, am_ts T, I, L, am_rs r)) from ?_)
    exact ⟨hw.1, hK _ hw.2⟩
def lw_286_2 : Nat → Int32 → Int32 → am_I → (Int32 → am_I → Prop) → Prop
  | 0, _, _, _, _ => False
  | n + 1, v1, v2, I, E0 =>
    if (9 : Int32) ≤ v2 then
      E0 v2 I
    else
      ¬ (v2 < 0 ∨ 9 ≤ Int32.toNatClampNeg v2) ∧
      lw_286_2 n v1 (v2 + 1) (am_u I 95 (Int32.toNatClampNeg v2) 0) E0
set_option maxRecDepth 100000 in
theorem sl_286_2 {S : am_S} {d : Nat} {Q : am_Q} {N : Nat} {T : Nat → Nat × Nat} {L : am_J} {r : Nat → Nat → Option Nat} {E0 : Int32 → am_I → Prop} : ∀ (n : Nat) {v1 : Int32} {v2 : Int32} {I : am_I}, lw_286_2 n v1 v2 I E0 → (∀ (o2 : Int32) (I1 : am_I), E0 o2 I1 → am_E S 286 (d + 1) 0 0 21 [.ref 66, .int v1, .int o2, am_jk, am_jk] [] (N, am_ts T, I1, L, am_rs r) Q) → am_E S 286 (d + 1) 0 0 2 [.ref 66, .int v1, .int v2, am_jk, am_jk] [] (N, am_ts T, I, L, am_rs r) Q
  | 0, _, _, _, hw, _ => hw.elim
  | n + 1, v1, v2, I, hw, hE0 => by
    have ih := @sl_286_2 S d Q N T L r E0 n
    unfold lw_286_2 at hw
    try dsimp only at hw
    refine am_E.run [2, 21] 2000 (show (if (9 : Int32) ≤ v2 then (am_E S 286 (d + 1) 0 0 21 [.ref 66, .int v1, .int v2, am_jk, am_jk] [] (N, am_ts T, I, L, am_rs r) Q) else (if v2 < 0 ∨ 9 ≤ Int32.toNatClampNeg v2 then False else (am_E S 286 (d + 1) 0 0 2 [.ref 66, .int v1, .int (v2 + 1), am_jk, am_jk] [] (N, am_ts T, (am_u I 95 (Int32.toNatClampNeg v2) 0), L, am_rs r) Q))) from ?_)
    by_cases hc : (9 : Int32) ≤ v2
    · rw [if_pos hc] at hw ⊢
      exact hE0 _ _ hw
    · rw [if_neg hc] at hw ⊢
      refine am_ifn hw.1 ?_
      replace hw := hw.2
      exact ih hw hE0
def lw_286_25 : Nat → Int32 → Int32 → Int32 → am_I → (Int32 → Int32 → am_I → Prop) → Prop
  | 0, _, _, _, _, _ => False
  | n + 1, v1, v2, v3, I, E0 =>
    if (1 <<< ((I 68 1) &&& 31)) ≤ v3 then
      E0 v2 v3 I
    else
      ¬ (v3 < 0 ∨ 256 ≤ Int32.toNatClampNeg v3) ∧
      if (I 96 (Int32.toNatClampNeg v3)) = 0 then
        lw_286_25 n v1 v2 (v3 + 1) I E0
      else
        w_236 v1 (fun q3 =>
          w_236 (v1 &&& v3) (fun q4 =>
            ¬ ((q3 - q4) < 0 ∨ 9 ≤ Int32.toNatClampNeg (q3 - q4)) ∧
            ¬ ((q3 - q4) < 0 ∨ 9 ≤ Int32.toNatClampNeg (q3 - q4)) ∧
            ¬ ((q3 - q4) < 0 ∨ 9 ≤ Int32.toNatClampNeg (q3 - q4)) ∧
            if ((am_u I 95 (Int32.toNatClampNeg (q3 - q4)) ((I 95 (Int32.toNatClampNeg (q3 - q4))) + 1)) 95 (Int32.toNatClampNeg (q3 - q4))) ≤ v2 then
              lw_286_25 n v1 v2 (v3 + 1) (am_u I 95 (Int32.toNatClampNeg (q3 - q4)) ((I 95 (Int32.toNatClampNeg (q3 - q4))) + 1)) E0
            else
              ¬ ((q3 - q4) < 0 ∨ 9 ≤ Int32.toNatClampNeg (q3 - q4)) ∧
              lw_286_25 n v1 ((am_u I 95 (Int32.toNatClampNeg (q3 - q4)) ((I 95 (Int32.toNatClampNeg (q3 - q4))) + 1)) 95 (Int32.toNatClampNeg (q3 - q4))) (v3 + 1) (am_u I 95 (Int32.toNatClampNeg (q3 - q4)) ((I 95 (Int32.toNatClampNeg (q3 - q4))) + 1)) E0))
set_option maxRecDepth 100000 in
theorem sl_286_25 {S : am_S} {d : Nat} {Q : am_Q} {N : Nat} {T : Nat → Nat × Nat} {L : am_J} {r : Nat → Nat → Option Nat} {E0 : Int32 → Int32 → am_I → Prop} : ∀ (n : Nat) {v1 : Int32} {v2 : Int32} {v3 : Int32} {I : am_I}, lw_286_25 n v1 v2 v3 I E0 → (∀ (o2 : Int32) (o3 : Int32) (I1 : am_I), E0 o2 o3 I1 → am_E S 286 (d + 1) 0 0 99 [.ref 66, .int v1, .int o2, .int o3, am_jk] [] (N, am_ts T, I1, L, am_rs r) Q) → am_E S 286 (d + 1) 0 0 25 [.ref 66, .int v1, .int v2, .int v3, am_jk] [] (N, am_ts T, I, L, am_rs r) Q
  | 0, _, _, _, _, hw, _ => hw.elim
  | n + 1, v1, v2, v3, I, hw, hE0 => by
    have ih := @sl_286_25 S d Q N T L r E0 n
    unfold lw_286_25 at hw
    try dsimp only at hw
    refine am_E.run [25, 47, 99] 2000 (show (if (1 <<< ((I 68 1) &&& 31)) ≤ v3 then (am_E S 286 (d + 1) 0 0 99 [.ref 66, .int v1, .int v2, .int v3, am_jk] [] (N, am_ts T, I, L, am_rs r) Q) else (if v3 < 0 ∨ 256 ≤ Int32.toNatClampNeg v3 then False else (if (I 96 (Int32.toNatClampNeg v3)) = 0 then (am_E S 286 (d + 1) 0 0 25 [.ref 66, .int v1, .int v2, .int (v3 + 1), am_jk] [] (N, am_ts T, I, L, am_rs r) Q) else (am_E S 286 (d + 1) 0 0 47 [.ref 66, .int v1, .int v2, .int v3, am_jk] [.int v1] (N, am_ts T, I, L, am_rs r) Q)))) from ?_)
    by_cases hc : (1 <<< ((I 68 1) &&& 31)) ≤ v3
    · rw [if_pos hc] at hw ⊢
      exact hE0 _ _ _ hw
    · rw [if_neg hc] at hw ⊢
      refine am_ifn hw.1 ?_
      replace hw := hw.2
      by_cases hc : (I 96 (Int32.toNatClampNeg v3)) = 0
      · rw [if_pos hc] at hw ⊢
        exact ih hw hE0
      · rw [if_neg hc] at hw ⊢
        refine am_E.go ⟨am_ki_ N T I L r _, s_236 hw (fun q3 hk => ⟨q3, rfl, rfl, hk⟩), ?_⟩
        intro v h9 hv
        obtain ⟨q3, rfl, rfl, hw⟩ := hv
        try dsimp only at hw
        refine am_E.run [53] 2000 (show (am_E S 286 (d + 1) 0 0 53 [.ref 66, .int v1, .int v2, .int v3, am_jk] [.int (v1 &&& v3), .int q3] (N, am_ts T, I, L, am_rs r) Q) from ?_)
        refine am_E.go ⟨am_ki_ N T I L r _, s_236 hw (fun q4 hk => ⟨q4, rfl, rfl, hk⟩), ?_⟩
        intro v h9 hv
        obtain ⟨q4, rfl, rfl, hw⟩ := hv
        try dsimp only at hw
        refine am_E.run [25] 2000 (show (if (q3 - q4) < 0 ∨ 9 ≤ Int32.toNatClampNeg (q3 - q4) then False else (if (q3 - q4) < 0 ∨ 9 ≤ Int32.toNatClampNeg (q3 - q4) then False else (if (q3 - q4) < 0 ∨ 9 ≤ Int32.toNatClampNeg (q3 - q4) then False else (if ((am_u I 95 (Int32.toNatClampNeg (q3 - q4)) ((I 95 (Int32.toNatClampNeg (q3 - q4))) + 1)) 95 (Int32.toNatClampNeg (q3 - q4))) ≤ v2 then (am_E S 286 (d + 1) 0 0 25 [.ref 66, .int v1, .int v2, .int (v3 + 1), .int (q3 - q4)] [] (N, am_ts T, (am_u I 95 (Int32.toNatClampNeg (q3 - q4)) ((I 95 (Int32.toNatClampNeg (q3 - q4))) + 1)), L, am_rs r) Q) else (if (q3 - q4) < 0 ∨ 9 ≤ Int32.toNatClampNeg (q3 - q4) then False else (am_E S 286 (d + 1) 0 0 25 [.ref 66, .int v1, .int ((am_u I 95 (Int32.toNatClampNeg (q3 - q4)) ((I 95 (Int32.toNatClampNeg (q3 - q4))) + 1)) 95 (Int32.toNatClampNeg (q3 - q4))), .int (v3 + 1), .int (q3 - q4)] [] (N, am_ts T, (am_u I 95 (Int32.toNatClampNeg (q3 - q4)) ((I 95 (Int32.toNatClampNeg (q3 - q4))) + 1)), L, am_rs r) Q)))))) from ?_)
        refine am_ifn hw.1 ?_
        replace hw := hw.2
        refine am_ifn hw.1 ?_
        replace hw := hw.2
        refine am_ifn hw.1 ?_
        replace hw := hw.2
        by_cases hc : ((am_u I 95 (Int32.toNatClampNeg (q3 - q4)) ((I 95 (Int32.toNatClampNeg (q3 - q4))) + 1)) 95 (Int32.toNatClampNeg (q3 - q4))) ≤ v2
        · rw [if_pos hc] at hw ⊢
          exact am_E.junk (ih hw hE0) (am_le.cons (am_le.cons (am_le.cons (am_le.cons (am_le.jk am_le.nil)))))
        · rw [if_neg hc] at hw ⊢
          refine am_ifn hw.1 ?_
          replace hw := hw.2
          exact am_E.junk (ih hw hE0) (am_le.cons (am_le.cons (am_le.cons (am_le.cons (am_le.jk am_le.nil)))))
/-- KeyKeepersModel.mostLeft(I)I -/
def w_286 (x0 : Int32) (I : am_I) (K : Int32 → am_I → Prop) : Prop :=
  ∃ n2, lw_286_2 n2 x0 0 I (fun o1 I2 =>
    ∃ n25, lw_286_25 n25 x0 0 0 I2 (fun o5 o6 I7 =>
      K o5 I7))
set_option maxRecDepth 100000 in
theorem s_286 {S : am_S} {d : Nat} {N : Nat} {T : Nat → Nat × Nat} {I : am_I} {L : am_J} {r : Nat → Nat → Option Nat} {Q : am_Q} {x0 : Int32} {K : Int32 → am_I → Prop} (hw : w_286 x0 I K) (hK : ∀ (q : Int32) (I1 : am_I), K q I1 → Q (some (.int q)) (N, am_ts T, I1, L, am_rs r)) : am_E S 286 (d + 1) 0 0 0 [.ref 66, .int x0, am_jk, am_jk, am_jk] [] (N, am_ts T, I, L, am_rs r) Q := by
  unfold w_286 at hw
  try dsimp only at hw
  refine am_E.run [2] 2000 (show (am_E S 286 (d + 1) 0 0 2 [.ref 66, .int x0, .int 0, am_jk, am_jk] [] (N, am_ts T, I, L, am_rs r) Q) from ?_)
  obtain ⟨n2, hw⟩ := hw
  refine sl_286_2 n2 hw (fun o1 I2 hw => ?_)
  · try dsimp only at hw
    refine am_E.run [25] 2000 (show (am_E S 286 (d + 1) 0 0 25 [.ref 66, .int x0, .int 0, .int 0, am_jk] [] (N, am_ts T, I2, L, am_rs r) Q) from ?_)
    obtain ⟨n25, hw⟩ := hw
    refine sl_286_25 n25 hw (fun o5 o6 I7 hw => ?_)
    · try dsimp only at hw
      refine am_E.run [] 2000 (show (True ∧ Q (some (.int o5)) (N, am_ts T, I7, L, am_rs r)) from ?_)
      exact ⟨trivial, hK _ _ hw⟩
def wb_290_50 (v1 : Int32) (v2 : Int32) (v3 : Int32) (v5 : Int32) (v6 : Int32) (s0 : Int32) (s1 : Int32) (I : am_I) (B : Int32 → Int32 → Int32 → Prop) (E0 : Int32 → Int32 → Int32 → Prop) : Prop :=
  ¬ ((10 + v6) < 0 ∨ 5510 ≤ Int32.toNatClampNeg (10 + v6)) ∧
  if (I 68 (Int32.toNatClampNeg (10 + v6))) = v1 then
    ¬ ((50 + v6) < 0 ∨ 5510 ≤ Int32.toNatClampNeg (50 + v6)) ∧
    B (s0 + s1) (v5 + (1 - (I 68 (Int32.toNatClampNeg (50 + v6))))) (v6 + 1)
  else
    B (s0 + s1) (v5 + 0) (v6 + 1)
set_option maxRecDepth 100000 in
theorem sb_290_50 {S : am_S} {d : Nat} {N : Nat} {T : Nat → Nat × Nat} {I : am_I} {L : am_J} {r : Nat → Nat → Option Nat} {Q : am_Q} {v1 : Int32} {v2 : Int32} {v3 : Int32} {v5 : Int32} {v6 : Int32} {s0 : Int32} {s1 : Int32} {B : Int32 → Int32 → Int32 → Prop} {E0 : Int32 → Int32 → Int32 → Prop} (hw : wb_290_50 v1 v2 v3 v5 v6 s0 s1 I B E0) (hB : ∀ (o4 : Int32) (o5 : Int32) (o6 : Int32), B o4 o5 o6 → am_E S 290 (d + 0) 0 0 9 [.ref 66, .int v1, .int v2, .int v3, .int o4, .int o5, .int o6] [] (N, am_ts T, I, L, am_rs r) Q) (hE0 : ∀ (o4 : Int32) (o5 : Int32) (o6 : Int32), E0 o4 o5 o6 → am_E S 290 (d + 0) 0 0 94 [.ref 66, .int v1, .int v2, .int v3, .int o4, .int o5, .int o6] [] (N, am_ts T, I, L, am_rs r) Q) : am_E S 290 (d + 0) 0 0 50 [.ref 66, .int v1, .int v2, .int v3, am_jk, .int v5, .int v6] [.int s1, .int s0] (N, am_ts T, I, L, am_rs r) Q := by
  unfold wb_290_50 at hw
  try dsimp only at hw
  refine am_E.run [9] 2000 (show (if (10 + v6) < 0 ∨ 5510 ≤ Int32.toNatClampNeg (10 + v6) then False else (if (I 68 (Int32.toNatClampNeg (10 + v6))) = v1 then (if (50 + v6) < 0 ∨ 5510 ≤ Int32.toNatClampNeg (50 + v6) then False else (am_E S 290 (d + 0) 0 0 9 [.ref 66, .int v1, .int v2, .int v3, .int (s0 + s1), .int (v5 + (1 - (I 68 (Int32.toNatClampNeg (50 + v6))))), .int (v6 + 1)] [] (N, am_ts T, I, L, am_rs r) Q)) else (am_E S 290 (d + 0) 0 0 9 [.ref 66, .int v1, .int v2, .int v3, .int (s0 + s1), .int (v5 + 0), .int (v6 + 1)] [] (N, am_ts T, I, L, am_rs r) Q))) from ?_)
  refine am_ifn hw.1 ?_
  replace hw := hw.2
  by_cases hc : (I 68 (Int32.toNatClampNeg (10 + v6))) = v1
  · rw [if_pos hc] at hw ⊢
    refine am_ifn hw.1 ?_
    replace hw := hw.2
    exact hB _ _ _ hw
  · rw [if_neg hc] at hw ⊢
    exact hB _ _ _ hw
def lw_290_9 : Nat → Int32 → Int32 → Int32 → Int32 → Int32 → Int32 → am_I → (Int32 → Int32 → Int32 → Prop) → Prop
  | 0, _, _, _, _, _, _, _, _ => False
  | n + 1, v1, v2, v3, v4, v5, v6, I, E0 =>
    if (I 68 1) ≤ v6 then
      E0 v4 v5 v6
    else
      ¬ ((10 + v6) < 0 ∨ 5510 ≤ Int32.toNatClampNeg (10 + v6)) ∧
      if (I 68 (Int32.toNatClampNeg (10 + v6))) = v1 then
        ¬ ((50 + v6) < 0 ∨ 5510 ≤ Int32.toNatClampNeg (50 + v6)) ∧
        wb_290_50 v1 v2 v3 v5 v6 v4 (I 68 (Int32.toNatClampNeg (50 + v6))) I (fun v4 v5 v6 => lw_290_9 n v1 v2 v3 v4 v5 v6 I E0) E0
      else
        wb_290_50 v1 v2 v3 v5 v6 v4 0 I (fun v4 v5 v6 => lw_290_9 n v1 v2 v3 v4 v5 v6 I E0) E0
set_option maxRecDepth 100000 in
theorem sl_290_9 {S : am_S} {d : Nat} {Q : am_Q} {N : Nat} {T : Nat → Nat × Nat} {I : am_I} {L : am_J} {r : Nat → Nat → Option Nat} {E0 : Int32 → Int32 → Int32 → Prop} : ∀ (n : Nat) {v1 : Int32} {v2 : Int32} {v3 : Int32} {v4 : Int32} {v5 : Int32} {v6 : Int32}, lw_290_9 n v1 v2 v3 v4 v5 v6 I E0 → (∀ (o4 : Int32) (o5 : Int32) (o6 : Int32), E0 o4 o5 o6 → am_E S 290 (d + 0) 0 0 94 [.ref 66, .int v1, .int v2, .int v3, .int o4, .int o5, .int o6] [] (N, am_ts T, I, L, am_rs r) Q) → am_E S 290 (d + 0) 0 0 9 [.ref 66, .int v1, .int v2, .int v3, .int v4, .int v5, .int v6] [] (N, am_ts T, I, L, am_rs r) Q
  | 0, _, _, _, _, _, _, hw, _ => hw.elim
  | n + 1, v1, v2, v3, v4, v5, v6, hw, hE0 => by
    have ih := @sl_290_9 S d Q N T I L r E0 n
    unfold lw_290_9 at hw
    try dsimp only at hw
    refine am_E.run [50, 94] 2000 (show (if (I 68 1) ≤ v6 then (am_E S 290 (d + 0) 0 0 94 [.ref 66, .int v1, .int v2, .int v3, .int v4, .int v5, .int v6] [] (N, am_ts T, I, L, am_rs r) Q) else (if (10 + v6) < 0 ∨ 5510 ≤ Int32.toNatClampNeg (10 + v6) then False else (if (I 68 (Int32.toNatClampNeg (10 + v6))) = v1 then (if (50 + v6) < 0 ∨ 5510 ≤ Int32.toNatClampNeg (50 + v6) then False else (am_E S 290 (d + 0) 0 0 50 [.ref 66, .int v1, .int v2, .int v3, .int v4, .int v5, .int v6] [.int (I 68 (Int32.toNatClampNeg (50 + v6))), .int v4] (N, am_ts T, I, L, am_rs r) Q)) else (am_E S 290 (d + 0) 0 0 50 [.ref 66, .int v1, .int v2, .int v3, .int v4, .int v5, .int v6] [.int 0, .int v4] (N, am_ts T, I, L, am_rs r) Q)))) from ?_)
    by_cases hc : (I 68 1) ≤ v6
    · rw [if_pos hc] at hw ⊢
      exact hE0 _ _ _ hw
    · rw [if_neg hc] at hw ⊢
      refine am_ifn hw.1 ?_
      replace hw := hw.2
      by_cases hc : (I 68 (Int32.toNatClampNeg (10 + v6))) = v1
      · rw [if_pos hc] at hw ⊢
        refine am_ifn hw.1 ?_
        replace hw := hw.2
        exact am_E.junk (sb_290_50 hw (fun _ _ _ hw => ih hw hE0) hE0) (am_le.cons (am_le.cons (am_le.cons (am_le.cons (am_le.jk (am_le.cons (am_le.cons am_le.nil)))))))
      · rw [if_neg hc] at hw ⊢
        exact am_E.junk (sb_290_50 hw (fun _ _ _ hw => ih hw hE0) hE0) (am_le.cons (am_le.cons (am_le.cons (am_le.cons (am_le.jk (am_le.cons (am_le.cons am_le.nil)))))))
def wb_290_120 (v3 : Int32) (v4 : Int32) (s0 : Int32) (I : am_I) (K : Int32 → Prop) : Prop :=
  if v3 ≤ 0 then
    if (0 : Int32) ≤ v3 then
      if (v4 + s0) = 0 then
        K 1
      else
        K 0
    else
      if (0 : Int32) ≤ (v3 + (2 * s0)) then
        K 0
      else
        K 1
  else
    if (v3 - (2 * v4)) ≤ 0 then
      K 0
    else
      K 1
set_option maxRecDepth 100000 in
theorem sb_290_120 {S : am_S} {d : Nat} {N : Nat} {T : Nat → Nat × Nat} {I : am_I} {L : am_J} {r : Nat → Nat → Option Nat} {Q : am_Q} {v3 : Int32} {v4 : Int32} {s0 : Int32} {K : Int32 → Prop} (hw : wb_290_120 v3 v4 s0 I K) (hK : ∀ (q : Int32), K q → Q (some (.int q)) (N, am_ts T, I, L, am_rs r)) : am_E S 290 (d + 0) 0 0 120 [am_jk, am_jk, am_jk, .int v3, .int v4, am_jk, am_jk] [.int s0] (N, am_ts T, I, L, am_rs r) Q := by
  unfold wb_290_120 at hw
  try dsimp only at hw
  refine am_E.run [] 2000 (show (if v3 ≤ 0 then (if (0 : Int32) ≤ v3 then (if (v4 + s0) = 0 then (((1 : Int32) = 0 ∨ (1 : Int32) = 1) ∧ Q (some (.int 1)) (N, am_ts T, I, L, am_rs r)) else (((0 : Int32) = 0 ∨ (0 : Int32) = 1) ∧ Q (some (.int 0)) (N, am_ts T, I, L, am_rs r))) else (if (0 : Int32) ≤ (v3 + (2 * s0)) then (((0 : Int32) = 0 ∨ (0 : Int32) = 1) ∧ Q (some (.int 0)) (N, am_ts T, I, L, am_rs r)) else (((1 : Int32) = 0 ∨ (1 : Int32) = 1) ∧ Q (some (.int 1)) (N, am_ts T, I, L, am_rs r)))) else (if (v3 - (2 * v4)) ≤ 0 then (((0 : Int32) = 0 ∨ (0 : Int32) = 1) ∧ Q (some (.int 0)) (N, am_ts T, I, L, am_rs r)) else (((1 : Int32) = 0 ∨ (1 : Int32) = 1) ∧ Q (some (.int 1)) (N, am_ts T, I, L, am_rs r)))) from ?_)
  by_cases hc : v3 ≤ 0
  · rw [if_pos hc] at hw ⊢
    by_cases hc : (0 : Int32) ≤ v3
    · rw [if_pos hc] at hw ⊢
      by_cases hc : (v4 + s0) = 0
      · rw [if_pos hc] at hw ⊢
        exact ⟨Or.inr rfl, hK _ hw⟩
      · rw [if_neg hc] at hw ⊢
        exact ⟨Or.inl rfl, hK _ hw⟩
    · rw [if_neg hc] at hw ⊢
      by_cases hc : (0 : Int32) ≤ (v3 + (2 * s0))
      · rw [if_pos hc] at hw ⊢
        exact ⟨Or.inl rfl, hK _ hw⟩
      · rw [if_neg hc] at hw ⊢
        exact ⟨Or.inr rfl, hK _ hw⟩
  · rw [if_neg hc] at hw ⊢
    by_cases hc : (v3 - (2 * v4)) ≤ 0
    · rw [if_pos hc] at hw ⊢
      exact ⟨Or.inl rfl, hK _ hw⟩
    · rw [if_neg hc] at hw ⊢
      exact ⟨Or.inr rfl, hK _ hw⟩
def wb_290_106 (v2 : Int32) (v3 : Int32) (v5 : Int32) (s0 : Int32) (I : am_I) (K : Int32 → Prop) : Prop :=
  if v2 ≤ v5 then
    wb_290_120 v3 s0 v2 I K
  else
    wb_290_120 v3 s0 v5 I K
set_option maxRecDepth 100000 in
theorem sb_290_106 {S : am_S} {d : Nat} {N : Nat} {T : Nat → Nat × Nat} {I : am_I} {L : am_J} {r : Nat → Nat → Option Nat} {Q : am_Q} {v2 : Int32} {v3 : Int32} {v5 : Int32} {s0 : Int32} {K : Int32 → Prop} (hw : wb_290_106 v2 v3 v5 s0 I K) (hK : ∀ (q : Int32), K q → Q (some (.int q)) (N, am_ts T, I, L, am_rs r)) : am_E S 290 (d + 0) 0 0 106 [am_jk, am_jk, .int v2, .int v3, am_jk, .int v5, am_jk] [.int s0] (N, am_ts T, I, L, am_rs r) Q := by
  unfold wb_290_106 at hw
  try dsimp only at hw
  refine am_E.run [120] 2000 (show (if v2 ≤ v5 then (am_E S 290 (d + 0) 0 0 120 [am_jk, am_jk, .int v2, .int v3, .int s0, .int v5, am_jk] [.int v2] (N, am_ts T, I, L, am_rs r) Q) else (am_E S 290 (d + 0) 0 0 120 [am_jk, am_jk, .int v2, .int v3, .int s0, .int v5, am_jk] [.int v5] (N, am_ts T, I, L, am_rs r) Q)) from ?_)
  by_cases hc : v2 ≤ v5
  · rw [if_pos hc] at hw ⊢
    exact am_E.junk (sb_290_120 hw hK) (am_le.cons (am_le.cons (am_le.jk (am_le.cons (am_le.cons (am_le.jk (am_le.cons am_le.nil)))))))
  · rw [if_neg hc] at hw ⊢
    exact am_E.junk (sb_290_120 hw hK) (am_le.cons (am_le.cons (am_le.jk (am_le.cons (am_le.cons (am_le.jk (am_le.cons am_le.nil)))))))
/-- KeyKeepersModel.isSafe(III)Z -/
def w_290 (x0 : Int32) (x1 : Int32) (x2 : Int32) (I : am_I) (K : Int32 → Prop) : Prop :=
  ∃ n9, lw_290_9 n9 x0 x1 x2 0 0 0 I (fun o1 o2 o3 =>
    if x1 ≤ o1 then
      wb_290_106 x1 x2 o2 x1 I K
    else
      wb_290_106 x1 x2 o2 o1 I K)
set_option maxRecDepth 100000 in
theorem s_290 {S : am_S} {d : Nat} {N : Nat} {T : Nat → Nat × Nat} {I : am_I} {L : am_J} {r : Nat → Nat → Option Nat} {Q : am_Q} {x0 : Int32} {x1 : Int32} {x2 : Int32} {K : Int32 → Prop} (hw : w_290 x0 x1 x2 I K) (hK : ∀ (q : Int32), K q → Q (some (.int q)) (N, am_ts T, I, L, am_rs r)) : am_E S 290 (d + 0) 0 0 0 [.ref 66, .int x0, .int x1, .int x2, am_jk, am_jk, am_jk] [] (N, am_ts T, I, L, am_rs r) Q := by
  unfold w_290 at hw
  try dsimp only at hw
  refine am_E.run [9] 2000 (show (am_E S 290 (d + 0) 0 0 9 [.ref 66, .int x0, .int x1, .int x2, .int 0, .int 0, .int 0] [] (N, am_ts T, I, L, am_rs r) Q) from ?_)
  obtain ⟨n9, hw⟩ := hw
  refine sl_290_9 n9 hw (fun o1 o2 o3 hw => ?_)
  · try dsimp only at hw
    refine am_E.run [106] 2000 (show (if x1 ≤ o1 then (am_E S 290 (d + 0) 0 0 106 [.ref 66, .int x0, .int x1, .int x2, .int o1, .int o2, .int o3] [.int x1] (N, am_ts T, I, L, am_rs r) Q) else (am_E S 290 (d + 0) 0 0 106 [.ref 66, .int x0, .int x1, .int x2, .int o1, .int o2, .int o3] [.int o1] (N, am_ts T, I, L, am_rs r) Q)) from ?_)
    by_cases hc : x1 ≤ o1
    · rw [if_pos hc] at hw ⊢
      exact am_E.junk (sb_290_106 hw hK) (am_le.jk (am_le.jk (am_le.cons (am_le.cons (am_le.jk (am_le.cons (am_le.jk am_le.nil)))))))
    · rw [if_neg hc] at hw ⊢
      exact am_E.junk (sb_290_106 hw hK) (am_le.jk (am_le.jk (am_le.cons (am_le.cons (am_le.jk (am_le.cons (am_le.jk am_le.nil)))))))
