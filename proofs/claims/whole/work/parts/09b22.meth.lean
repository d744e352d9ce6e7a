def lw_269_42 : Nat → Int32 → Int32 → Int32 → Int32 → am_I → (Int32 → Int32 → Prop) → Prop
  | 0, _, _, _, _, _, _ => False
  | n + 1, v1, v2, v3, v4, I, E0 =>
    if (I 68 0) ≤ v4 then
      E0 v3 v4
    else
      w_250 v4 2 I (fun q1 =>
        lw_269_42 n v1 v2 (v3 ||| (q1 <<< (v4 &&& 31))) (v4 + 1) I E0)
set_option maxRecDepth 100000 in
theorem sl_269_42 {S : am_S} {d : Nat} {Q : am_Q} {N : Nat} {T : Nat → Nat × Nat} {I : am_I} {L : am_J} {r : Nat → Nat → Option Nat} {E0 : Int32 → Int32 → Prop} : ∀ (n : Nat) {v1 : Int32} {v2 : Int32} {v3 : Int32} {v4 : Int32}, lw_269_42 n v1 v2 v3 v4 I E0 → (∀ (o3 : Int32) (o4 : Int32), E0 o3 o4 → am_E S 269 (d + 4) 0 0 72 [.ref 66, .int v1, .int v2, .int o3, .int o4, am_jk, am_jk] [] (N, am_ts T, I, L, am_rs r) Q) → am_E S 269 (d + 4) 0 0 42 [.ref 66, .int v1, .int v2, .int v3, .int v4, am_jk, am_jk] [] (N, am_ts T, I, L, am_rs r) Q
  | 0, _, _, _, _, hw, _ => hw.elim
  | n + 1, v1, v2, v3, v4, hw, hE0 => by
    have ih := @sl_269_42 S d Q N T I L r E0 n
    unfold lw_269_42 at hw
    try dsimp only at hw
    refine am_E.run [58, 72] 2000 (show (if (I 68 0) ≤ v4 then (am_E S 269 (d + 4) 0 0 72 [.ref 66, .int v1, .int v2, .int v3, .int v4, am_jk, am_jk] [] (N, am_ts T, I, L, am_rs r) Q) else (am_E S 269 (d + 4) 0 0 58 [.ref 66, .int v1, .int v2, .int v3, .int v4, am_jk, am_jk] [.int 2, .int v4, .ref 66, .int v3] (N, am_ts T, I, L, am_rs r) Q)) from ?_)
    by_cases hc : (I 68 0) ≤ v4
    · rw [if_pos hc] at hw ⊢
      exact hE0 _ _ hw
    · rw [if_neg hc] at hw ⊢
      refine am_E.go ⟨am_ki_ N T I L r _, s_250 hw (fun q1 hk => ⟨q1, rfl, rfl, hk⟩), ?_⟩
      intro v h9 hv
      obtain ⟨q1, rfl, rfl, hw⟩ := hv
      try dsimp only at hw
      refine am_E.run [42] 2000 (show (am_E S 269 (d + 4) 0 0 42 [.ref 66, .int v1, .int v2, .int (v3 ||| (q1 <<< (v4 &&& 31))), .int (v4 + 1), am_jk, am_jk] [] (N, am_ts T, I, L, am_rs r) Q) from ?_)
      exact ih hw hE0
def lw_269_83 : Nat → Int32 → Int32 → Int32 → Int32 → Int32 → Int32 → am_I → (Int32 → Int32 → Int32 → am_I → Prop) → Prop
  | 0, _, _, _, _, _, _, _, _ => False
  | n + 1, v1, v2, v3, v4, v5, v6, I, E0 =>
    if (1 <<< ((I 68 0) &&& 31)) ≤ v6 then
      E0 v4 v5 v6 I
    else
      if (v6 &&& v3) = 0 then
        w_236 v6 (fun q4 =>
          if v4 ≤ q4 then
            lw_269_83 n v1 v2 v3 v4 v5 (v6 + 1) I E0
          else
            w_267 v1 v6 I (fun q5 I6 =>
              if q5 = 100000000 then
                w_236 v6 (fun q7 =>
                  lw_269_83 n v1 v2 v3 q7 v6 (v6 + 1) I6 E0)
              else
                lw_269_83 n v1 v2 v3 v4 v5 (v6 + 1) I6 E0))
      else
        lw_269_83 n v1 v2 v3 v4 v5 (v6 + 1) I E0
set_option maxRecDepth 100000 in
theorem sl_269_83 {S : am_S} {d : Nat} {Q : am_Q} {N : Nat} {T : Nat → Nat × Nat} {L : am_J} {r : Nat → Nat → Option Nat} {E0 : Int32 → Int32 → Int32 → am_I → Prop} : ∀ (n : Nat) {v1 : Int32} {v2 : Int32} {v3 : Int32} {v4 : Int32} {v5 : Int32} {v6 : Int32} {I : am_I}, lw_269_83 n v1 v2 v3 v4 v5 v6 I E0 → (∀ (o4 : Int32) (o5 : Int32) (o6 : Int32) (I1 : am_I), E0 o4 o5 o6 I1 → am_E S 269 (d + 4) 0 0 143 [.ref 66, .int v1, .int v2, .int v3, .int o4, .int o5, .int o6] [] (N, am_ts T, I1, L, am_rs r) Q) → am_E S 269 (d + 4) 0 0 83 [.ref 66, .int v1, .int v2, .int v3, .int v4, .int v5, .int v6] [] (N, am_ts T, I, L, am_rs r) Q
  | 0, _, _, _, _, _, _, _, hw, _ => hw.elim
  | n + 1, v1, v2, v3, v4, v5, v6, I, hw, hE0 => by
    have ih := @sl_269_83 S d Q N T L r E0 n
    unfold lw_269_83 at hw
    try dsimp only at hw
    refine am_E.run [83, 105, 143] 2000 (show (if (1 <<< ((I 68 0) &&& 31)) ≤ v6 then (am_E S 269 (d + 4) 0 0 143 [.ref 66, .int v1, .int v2, .int v3, .int v4, .int v5, .int v6] [] (N, am_ts T, I, L, am_rs r) Q) else (if (v6 &&& v3) = 0 then (am_E S 269 (d + 4) 0 0 105 [.ref 66, .int v1, .int v2, .int v3, .int v4, .int v5, .int v6] [.int v6] (N, am_ts T, I, L, am_rs r) Q) else (am_E S 269 (d + 4) 0 0 83 [.ref 66, .int v1, .int v2, .int v3, .int v4, .int v5, .int (v6 + 1)] [] (N, am_ts T, I, L, am_rs r) Q))) from ?_)
    by_cases hc : (1 <<< ((I 68 0) &&& 31)) ≤ v6
    · rw [if_pos hc] at hw ⊢
      exact hE0 _ _ _ _ hw
    · rw [if_neg hc] at hw ⊢
      by_cases hc : (v6 &&& v3) = 0
      · rw [if_pos hc] at hw ⊢
        refine am_E.go ⟨am_ki_ N T I L r _, s_236 hw (fun q4 hk => ⟨q4, rfl, rfl, hk⟩), ?_⟩
        intro v h9 hv
        obtain ⟨q4, rfl, rfl, hw⟩ := hv
        try dsimp only at hw
        refine am_E.run [83, 117] 2000 (show (if v4 ≤ q4 then (am_E S 269 (d + 4) 0 0 83 [.ref 66, .int v1, .int v2, .int v3, .int v4, .int v5, .int (v6 + 1)] [] (N, am_ts T, I, L, am_rs r) Q) else (am_E S 269 (d + 4) 0 0 117 [.ref 66, .int v1, .int v2, .int v3, .int v4, .int v5, .int v6] [.int v6, .int v1, .ref 66] (N, am_ts T, I, L, am_rs r) Q)) from ?_)
        by_cases hc : v4 ≤ q4
        · rw [if_pos hc] at hw ⊢
          exact ih hw hE0
        · rw [if_neg hc] at hw ⊢
          refine am_E.go ⟨am_ki_I N T L r _, s_267 hw (fun q5 I6 hk => ⟨q5, I6, rfl, rfl, hk⟩), ?_⟩
          intro v h9 hv
          obtain ⟨q5, I6, rfl, rfl, hw⟩ := hv
          try dsimp only at hw
          refine am_E.run [83, 128] 2000 (show (if q5 = 100000000 then (am_E S 269 (d + 4) 0 0 128 [.ref 66, .int v1, .int v2, .int v3, .int v4, .int v5, .int v6] [.int v6] (N, am_ts T, I6, L, am_rs r) Q) else (am_E S 269 (d + 4) 0 0 83 [.ref 66, .int v1, .int v2, .int v3, .int v4, .int v5, .int (v6 + 1)] [] (N, am_ts T, I6, L, am_rs r) Q)) from ?_)
          by_cases hc : q5 = 100000000
          · rw [if_pos hc] at hw ⊢
            refine am_E.go ⟨am_ki_ N T I6 L r _, s_236 hw (fun q7 hk => ⟨q7, rfl, rfl, hk⟩), ?_⟩
            intro v h9 hv
            obtain ⟨q7, rfl, rfl, hw⟩ := hv
            try dsimp only at hw
            refine am_E.run [83] 2000 (show (am_E S 269 (d + 4) 0 0 83 [.ref 66, .int v1, .int v2, .int v3, .int q7, .int v6, .int (v6 + 1)] [] (N, am_ts T, I6, L, am_rs r) Q) from ?_)
            exact ih hw hE0
          · rw [if_neg hc] at hw ⊢
            exact ih hw hE0
      · rw [if_neg hc] at hw ⊢
        exact ih hw hE0
/-- KeyKeepersModel.cut(II)I -/
def w_269 (x0 : Int32) (x1 : Int32) (I : am_I) (K : Int32 → am_I → Prop) : Prop :=
  if (f_192 x0 (am_u I 66 0 0)) = 0 then
    K (-1) (am_u I 66 0 0)
  else
    ¬ ((10 + x0) < 0 ∨ 5510 ≤ Int32.toNatClampNeg (10 + x0)) ∧
    if (I 68 (Int32.toNatClampNeg (10 + x0))) = 0 then
      K (-1) (am_u I 66 0 0)
    else
      if (f_182 (Int32.toInt64 x1) 0 1) = 0 then
        K (-1) (am_u I 66 0 0)
      else
        ∃ n42, lw_269_42 n42 x0 x1 0 0 (am_u I 66 0 0) (fun o2 o3 =>
          ∃ n83, lw_269_83 n83 x0 x1 o2 100000000 0 0 (am_u I 66 0 0) (fun o8 o9 o10 I11 =>
            if x1 = 0 then
              K o8 I11
            else
              K o9 I11))
set_option maxRecDepth 100000 in
theorem s_269 {S : am_S} {d : Nat} {N : Nat} {T : Nat → Nat × Nat} {I : am_I} {L : am_J} {r : Nat → Nat → Option Nat} {Q : am_Q} {x0 : Int32} {x1 : Int32} {K : Int32 → am_I → Prop} (hw : w_269 x0 x1 I K) (hK : ∀ (q : Int32) (I1 : am_I), K q I1 → Q (some (.int q)) (N, am_ts T, I1, L, am_rs r)) : am_E S 269 (d + 4) 0 0 0 [.ref 66, .int x0, .int x1, am_jk, am_jk, am_jk, am_jk] [] (N, am_ts T, I, L, am_rs r) Q := by
  unfold w_269 at hw
  try dsimp only at hw
  refine am_E.run [7] 2000 (show (am_E S 269 (d + 4) 0 0 7 [.ref 66, .int x0, .int x1, am_jk, am_jk, am_jk, am_jk] [.int x0, .ref 66] (N, am_ts T, (am_u I 66 0 0), L, am_rs r) Q) from ?_)
  refine am_E.go ⟨fun v h9 => v = some (.int (f_192 x0 (am_u I 66 0 0))) ∧ h9 = (N, am_ts T, (am_u I 66 0 0), L, am_rs r), s_192 ⟨rfl, rfl⟩, ?_⟩
  intro v h9 hv
  obtain ⟨rfl, rfl⟩ := hv
  refine am_E.run [29] 2000 (show (if (f_192 x0 (am_u I 66 0 0)) = 0 then (True ∧ Q (some (.int (-1))) (N, am_ts T, (am_u I 66 0 0), L, am_rs r)) else (if (10 + x0) < 0 ∨ 5510 ≤ Int32.toNatClampNeg (10 + x0) then False else (if (I 68 (Int32.toNatClampNeg (10 + x0))) = 0 then (True ∧ Q (some (.int (-1))) (N, am_ts T, (am_u I 66 0 0), L, am_rs r)) else (am_E S 269 (d + 4) 0 0 29 [.ref 66, .int x0, .int x1, am_jk, am_jk, am_jk, am_jk] [.long 1, .long 0, .long (Int32.toInt64 x1)] (N, am_ts T, (am_u I 66 0 0), L, am_rs r) Q)))) from ?_)
  by_cases hc : (f_192 x0 (am_u I 66 0 0)) = 0
  · rw [if_pos hc] at hw ⊢
    exact ⟨trivial, hK _ _ hw⟩
  · rw [if_neg hc] at hw ⊢
    refine am_ifn hw.1 ?_
    replace hw := hw.2
    by_cases hc : (I 68 (Int32.toNatClampNeg (10 + x0))) = 0
    · rw [if_pos hc] at hw ⊢
      exact ⟨trivial, hK _ _ hw⟩
    · rw [if_neg hc] at hw ⊢
      refine am_E.go ⟨fun v h9 => v = some (.int (f_182 (Int32.toInt64 x1) 0 1)) ∧ h9 = (N, am_ts T, (am_u I 66 0 0), L, am_rs r), s_182 ⟨rfl, rfl⟩, ?_⟩
      intro v h9 hv
      obtain ⟨rfl, rfl⟩ := hv
      refine am_E.run [42] 2000 (show (if (f_182 (Int32.toInt64 x1) 0 1) = 0 then (True ∧ Q (some (.int (-1))) (N, am_ts T, (am_u I 66 0 0), L, am_rs r)) else (am_E S 269 (d + 4) 0 0 42 [.ref 66, .int x0, .int x1, .int 0, .int 0, am_jk, am_jk] [] (N, am_ts T, (am_u I 66 0 0), L, am_rs r) Q)) from ?_)
      by_cases hc : (f_182 (Int32.toInt64 x1) 0 1) = 0
      · rw [if_pos hc] at hw ⊢
        exact ⟨trivial, hK _ _ hw⟩
      · rw [if_neg hc] at hw ⊢
        obtain ⟨n42, hw⟩ := hw
        refine sl_269_42 n42 hw (fun o2 o3 hw => ?_)
        · try dsimp only at hw
          refine am_E.run [83] 2000 (show (am_E S 269 (d + 4) 0 0 83 [.ref 66, .int x0, .int x1, .int o2, .int 100000000, .int 0, .int 0] [] (N, am_ts T, (am_u I 66 0 0), L, am_rs r) Q) from ?_)
          obtain ⟨n83, hw⟩ := hw
          refine sl_269_83 n83 hw (fun o8 o9 o10 I11 hw => ?_)
          · try dsimp only at hw
            refine am_E.run [] 2000 (show (if x1 = 0 then (True ∧ Q (some (.int o8)) (N, am_ts T, I11, L, am_rs r)) else (True ∧ Q (some (.int o9)) (N, am_ts T, I11, L, am_rs r))) from ?_)
            by_cases hc : x1 = 0
            · rw [if_pos hc] at hw ⊢
              exact ⟨trivial, hK _ _ hw⟩
            · rw [if_neg hc] at hw ⊢
              exact ⟨trivial, hK _ _ hw⟩
def lw_270_9 : Nat → Int32 → Int32 → am_I → (Int32 → Int32 → am_I → Prop) → Prop
  | 0, _, _, _, _ => False
  | n + 1, v1, v2, I, E0 =>
    if (I 68 1) ≤ v2 then
      E0 v1 v2 I
    else
      ¬ ((10 + v2) < 0 ∨ 5510 ≤ Int32.toNatClampNeg (10 + v2)) ∧
      if (I 68 (Int32.toNatClampNeg (10 + v2))) = 0 then
        lw_270_9 n (v1 ||| 0) (v2 + 1) I E0
      else
        w_267 v2 0 I (fun q1 I2 =>
          if (100000000 : Int32) ≤ q1 then
            lw_270_9 n (v1 ||| 0) (v2 + 1) I2 E0
          else
            lw_270_9 n (v1 ||| (1 <<< (v2 &&& 31))) (v2 + 1) I2 E0)
set_option maxRecDepth 100000 in
theorem sl_270_9 {S : am_S} {d : Nat} {Q : am_Q} {N : Nat} {T : Nat → Nat × Nat} {L : am_J} {r : Nat → Nat → Option Nat} {E0 : Int32 → Int32 → am_I → Prop} : ∀ (n : Nat) {v1 : Int32} {v2 : Int32} {I : am_I}, lw_270_9 n v1 v2 I E0 → (∀ (o1 : Int32) (o2 : Int32) (I1 : am_I), E0 o1 o2 I1 → am_E S 270 (d + 4) 0 0 59 [.ref 66, .int o1, .int o2] [] (N, am_ts T, I1, L, am_rs r) Q) → am_E S 270 (d + 4) 0 0 9 [.ref 66, .int v1, .int v2] [] (N, am_ts T, I, L, am_rs r) Q
  | 0, _, _, _, hw, _ => hw.elim
  | n + 1, v1, v2, I, hw, hE0 => by
    have ih := @sl_270_9 S d Q N T L r E0 n
    unfold lw_270_9 at hw
    try dsimp only at hw
    refine am_E.run [9, 35, 59] 2000 (show (if (I 68 1) ≤ v2 then (am_E S 270 (d + 4) 0 0 59 [.ref 66, .int v1, .int v2] [] (N, am_ts T, I, L, am_rs r) Q) else (if (10 + v2) < 0 ∨ 5510 ≤ Int32.toNatClampNeg (10 + v2) then False else (if (I 68 (Int32.toNatClampNeg (10 + v2))) = 0 then (am_E S 270 (d + 4) 0 0 9 [.ref 66, .int (v1 ||| 0), .int (v2 + 1)] [] (N, am_ts T, I, L, am_rs r) Q) else (am_E S 270 (d + 4) 0 0 35 [.ref 66, .int v1, .int v2] [.int 0, .int v2, .ref 66, .int v1] (N, am_ts T, I, L, am_rs r) Q)))) from ?_)
    by_cases hc : (I 68 1) ≤ v2
    · rw [if_pos hc] at hw ⊢
      exact hE0 _ _ _ hw
    · rw [if_neg hc] at hw ⊢
      refine am_ifn hw.1 ?_
      replace hw := hw.2
      by_cases hc : (I 68 (Int32.toNatClampNeg (10 + v2))) = 0
      · rw [if_pos hc] at hw ⊢
        exact ih hw hE0
      · rw [if_neg hc] at hw ⊢
        refine am_E.go ⟨am_ki_I N T L r _, s_267 hw (fun q1 I2 hk => ⟨q1, I2, rfl, rfl, hk⟩), ?_⟩
        intro v h9 hv
        obtain ⟨q1, I2, rfl, rfl, hw⟩ := hv
        try dsimp only at hw
        refine am_E.run [9] 2000 (show (if (100000000 : Int32) ≤ q1 then (am_E S 270 (d + 4) 0 0 9 [.ref 66, .int (v1 ||| 0), .int (v2 + 1)] [] (N, am_ts T, I2, L, am_rs r) Q) else (am_E S 270 (d + 4) 0 0 9 [.ref 66, .int (v1 ||| (1 <<< (v2 &&& 31))), .int (v2 + 1)] [] (N, am_ts T, I2, L, am_rs r) Q)) from ?_)
        by_cases hc : (100000000 : Int32) ≤ q1
        · rw [if_pos hc] at hw ⊢
          exact ih hw hE0
        · rw [if_neg hc] at hw ⊢
          exact ih hw hE0
/-- KeyKeepersModel.together()I -/
def w_270 (I : am_I) (K : Int32 → am_I → Prop) : Prop :=
  ∃ n9, lw_270_9 n9 0 0 (am_u I 66 0 0) (fun o3 o4 I5 =>
    K o3 I5)
set_option maxRecDepth 100000 in
theorem s_270 {S : am_S} {d : Nat} {N : Nat} {T : Nat → Nat × Nat} {I : am_I} {L : am_J} {r : Nat → Nat → Option Nat} {Q : am_Q} {K : Int32 → am_I → Prop} (hw : w_270 I K) (hK : ∀ (q : Int32) (I1 : am_I), K q I1 → Q (some (.int q)) (N, am_ts T, I1, L, am_rs r)) : am_E S 270 (d + 4) 0 0 0 [.ref 66, am_jk, am_jk] [] (N, am_ts T, I, L, am_rs r) Q := by
  unfold w_270 at hw
  try dsimp only at hw
  refine am_E.run [9] 2000 (show (am_E S 270 (d + 4) 0 0 9 [.ref 66, .int 0, .int 0] [] (N, am_ts T, (am_u I 66 0 0), L, am_rs r) Q) from ?_)
  obtain ⟨n9, hw⟩ := hw
  refine sl_270_9 n9 hw (fun o3 o4 I5 hw => ?_)
  · try dsimp only at hw
    refine am_E.run [] 2000 (show (True ∧ Q (some (.int o3)) (N, am_ts T, I5, L, am_rs r)) from ?_)
    exact ⟨trivial, hK _ _ hw⟩
def lw_279_4 : Nat → Int32 → Int32 → Int32 → am_I → (Int32 → Int32 → Prop) → Prop
  | 0, _, _, _, _, _ => False
  | n + 1, v1, v2, v3, I, E0 =>
    if v1 ≤ v3 then
      E0 v2 v3
    else
      lw_279_4 n v1 (v2 * (I 68 1)) (v3 + 1) I E0
set_option maxRecDepth 100000 in
theorem sl_279_4 {S : am_S} {d : Nat} {Q : am_Q} {N : Nat} {T : Nat → Nat × Nat} {I : am_I} {L : am_J} {r : Nat → Nat → Option Nat} {E0 : Int32 → Int32 → Prop} : ∀ (n : Nat) {v1 : Int32} {v2 : Int32} {v3 : Int32}, lw_279_4 n v1 v2 v3 I E0 → (∀ (o2 : Int32) (o3 : Int32), E0 o2 o3 → am_E S 279 (d + 3) 0 0 24 [.ref 66, .int v1, .int o2, .int o3, am_jk, am_jk, am_jk] [] (N, am_ts T, I, L, am_rs r) Q) → am_E S 279 (d + 3) 0 0 4 [.ref 66, .int v1, .int v2, .int v3, am_jk, am_jk, am_jk] [] (N, am_ts T, I, L, am_rs r) Q
  | 0, _, _, _, hw, _ => hw.elim
  | n + 1, v1, v2, v3, hw, hE0 => by
    have ih := @sl_279_4 S d Q N T I L r E0 n
    unfold lw_279_4 at hw
    try dsimp only at hw
    refine am_E.run [4, 24] 2000 (show (if v1 ≤ v3 then (am_E S 279 (d + 3) 0 0 24 [.ref 66, .int v1, .int v2, .int v3, am_jk, am_jk, am_jk] [] (N, am_ts T, I, L, am_rs r) Q) else (am_E S 279 (d + 3) 0 0 4 [.ref 66, .int v1, .int (v2 * (I 68 1)), .int (v3 + 1), am_jk, am_jk, am_jk] [] (N, am_ts T, I, L, am_rs r) Q)) from ?_)
    by_cases hc : v1 ≤ v3
    · rw [if_pos hc] at hw ⊢
      exact hE0 _ _ hw
    · rw [if_neg hc] at hw ⊢
      exact ih hw hE0
def lw_279_44 : Nat → Int32 → Int32 → Int32 → Int32 → Int32 → Int32 → am_I → (Int32 → Int32 → am_I → Prop) → Prop
  | 0, _, _, _, _, _, _, _, _ => False
  | n + 1, v1, v2, v3, v4, v5, v6, I, E0 =>
    if v6 < 0 then
      E0 v5 v6 I
    else
      ¬ ((I 68 1) = 0) ∧
      ¬ (v6 < 0 ∨ 6 ≤ Int32.toNatClampNeg v6) ∧
      ¬ ((I 68 1) = 0) ∧
      lw_279_44 n v1 v2 v3 v4 (v5 / (I 68 1)) (v6 + (-1)) (am_u I 93 (Int32.toNatClampNeg v6) (v5 - v5 / (I 68 1) * (I 68 1))) E0
set_option maxRecDepth 100000 in
theorem sl_279_44 {S : am_S} {d : Nat} {Q : am_Q} {N : Nat} {T : Nat → Nat × Nat} {L : am_J} {r : Nat → Nat → Option Nat} {E0 : Int32 → Int32 → am_I → Prop} : ∀ (n : Nat) {v1 : Int32} {v2 : Int32} {v3 : Int32} {v4 : Int32} {v5 : Int32} {v6 : Int32} {I : am_I}, lw_279_44 n v1 v2 v3 v4 v5 v6 I E0 → (∀ (o5 : Int32) (o6 : Int32) (I1 : am_I), E0 o5 o6 I1 → am_E S 279 (d + 3) 0 0 82 [.ref 66, .int v1, .int v2, .int v3, .int v4, .int o5, .int o6] [] (N, am_ts T, I1, L, am_rs r) Q) → am_E S 279 (d + 3) 0 0 44 [.ref 66, .int v1, .int v2, .int v3, .int v4, .int v5, .int v6] [] (N, am_ts T, I, L, am_rs r) Q
  | 0, _, _, _, _, _, _, _, hw, _ => hw.elim
  | n + 1, v1, v2, v3, v4, v5, v6, I, hw, hE0 => by
    have ih := @sl_279_44 S d Q N T L r E0 n
    unfold lw_279_44 at hw
    try dsimp only at hw
    refine am_E.run [44, 82] 2000 (show (if v6 < 0 then (am_E S 279 (d + 3) 0 0 82 [.ref 66, .int v1, .int v2, .int v3, .int v4, .int v5, .int v6] [] (N, am_ts T, I, L, am_rs r) Q) else (if (I 68 1) = 0 then False else (if v6 < 0 ∨ 6 ≤ Int32.toNatClampNeg v6 then False else (if (I 68 1) = 0 then False else (am_E S 279 (d + 3) 0 0 44 [.ref 66, .int v1, .int v2, .int v3, .int v4, .int (v5 / (I 68 1)), .int (v6 + (-1))] [] (N, am_ts T, (am_u I 93 (Int32.toNatClampNeg v6) (v5 - v5 / (I 68 1) * (I 68 1))), L, am_rs r) Q))))) from ?_)
    by_cases hc : v6 < 0
    · rw [if_pos hc] at hw ⊢
      exact hE0 _ _ _ hw
    · rw [if_neg hc] at hw ⊢
      refine am_ifn hw.1 ?_
      replace hw := hw.2
      refine am_ifn hw.1 ?_
      replace hw := hw.2
      refine am_ifn hw.1 ?_
      replace hw := hw.2
      exact ih hw hE0
def lw_279_93 : Nat → Int32 → Int32 → Int32 → Int32 → Int32 → am_I → (Int32 → am_I → Prop) → Prop
  | 0, _, _, _, _, _, _, _ => False
  | n + 1, v1, v2, v3, v4, v6, I, E0 =>
    if v1 ≤ v6 then
      E0 v6 I
    else
      if v3 = 0 then
        ¬ (v6 < 0 ∨ 6 ≤ Int32.toNatClampNeg v6) ∧
        ¬ (v6 < 0 ∨ 6 ≤ Int32.toNatClampNeg v6) ∧
        lw_279_93 n v1 v2 v3 v4 (v6 + 1) (am_u I 94 (Int32.toNatClampNeg v6) (I 93 (Int32.toNatClampNeg v6))) E0
      else
        E0 v6 I
set_option maxRecDepth 100000 in
theorem sl_279_93 {S : am_S} {d : Nat} {Q : am_Q} {N : Nat} {T : Nat → Nat × Nat} {L : am_J} {r : Nat → Nat → Option Nat} {E0 : Int32 → am_I → Prop} : ∀ (n : Nat) {v1 : Int32} {v2 : Int32} {v3 : Int32} {v4 : Int32} {v6 : Int32} {I : am_I}, lw_279_93 n v1 v2 v3 v4 v6 I E0 → (∀ (o6 : Int32) (I1 : am_I), E0 o6 I1 → am_E S 279 (d + 3) 0 0 123 [.ref 66, .int v1, .int v2, .int v3, .int v4, am_jk, .int o6] [] (N, am_ts T, I1, L, am_rs r) Q) → am_E S 279 (d + 3) 0 0 93 [.ref 66, .int v1, .int v2, .int v3, .int v4, am_jk, .int v6] [] (N, am_ts T, I, L, am_rs r) Q
  | 0, _, _, _, _, _, _, hw, _ => hw.elim
  | n + 1, v1, v2, v3, v4, v6, I, hw, hE0 => by
    have ih := @sl_279_93 S d Q N T L r E0 n
    unfold lw_279_93 at hw
    try dsimp only at hw
    refine am_E.run [93, 123] 2000 (show (if v1 ≤ v6 then (am_E S 279 (d + 3) 0 0 123 [.ref 66, .int v1, .int v2, .int v3, .int v4, am_jk, .int v6] [] (N, am_ts T, I, L, am_rs r) Q) else (if v3 = 0 then (if v6 < 0 ∨ 6 ≤ Int32.toNatClampNeg v6 then False else (if v6 < 0 ∨ 6 ≤ Int32.toNatClampNeg v6 then False else (am_E S 279 (d + 3) 0 0 93 [.ref 66, .int v1, .int v2, .int v3, .int v4, am_jk, .int (v6 + 1)] [] (N, am_ts T, (am_u I 94 (Int32.toNatClampNeg v6) (I 93 (Int32.toNatClampNeg v6))), L, am_rs r) Q))) else (am_E S 279 (d + 3) 0 0 123 [.ref 66, .int v1, .int v2, .int v3, .int v4, am_jk, .int v6] [] (N, am_ts T, I, L, am_rs r) Q))) from ?_)
    by_cases hc : v1 ≤ v6
    · rw [if_pos hc] at hw ⊢
      exact hE0 _ _ hw
    · rw [if_neg hc] at hw ⊢
      by_cases hc : v3 = 0
      · rw [if_pos hc] at hw ⊢
        refine am_ifn hw.1 ?_
        replace hw := hw.2
        refine am_ifn hw.1 ?_
        replace hw := hw.2
        exact ih hw hE0
      · rw [if_neg hc] at hw ⊢
        exact hE0 _ _ hw
def lw_279_29 : Nat → Int32 → Int32 → Int32 → Int32 → am_I → (Int32 → Int32 → am_I → Prop) → Prop
  | 0, _, _, _, _, _, _ => False
  | n + 1, v1, v2, v3, v4, I, E0 =>
    if v2 ≤ v4 then
      E0 v3 v4 I
    else
      ∃ n44, lw_279_44 n44 v1 v2 v3 v4 v4 (v1 - 1) I (fun o3 o4 I5 =>
        w_280 v1 I5 (fun q6 =>
          if q6 = 0 then
            lw_279_29 n v1 v2 v3 (v4 + 1) I5 E0
          else
            ∃ n93, lw_279_93 n93 v1 v2 v3 v4 0 I5 (fun o7 I8 =>
              lw_279_29 n v1 v2 (v3 + 1) (v4 + 1) I8 E0)))
set_option maxRecDepth 100000 in
theorem sl_279_29 {S : am_S} {d : Nat} {Q : am_Q} {N : Nat} {T : Nat → Nat × Nat} {L : am_J} {r : Nat → Nat → Option Nat} {E0 : Int32 → Int32 → am_I → Prop} : ∀ (n : Nat) {v1 : Int32} {v2 : Int32} {v3 : Int32} {v4 : Int32} {I : am_I}, lw_279_29 n v1 v2 v3 v4 I E0 → (∀ (o3 : Int32) (o4 : Int32) (I1 : am_I), E0 o3 o4 I1 → am_E S 279 (d + 3) 0 0 132 [.ref 66, .int v1, .int v2, .int o3, .int o4, am_jk, am_jk] [] (N, am_ts T, I1, L, am_rs r) Q) → am_E S 279 (d + 3) 0 0 29 [.ref 66, .int v1, .int v2, .int v3, .int v4, am_jk, am_jk] [] (N, am_ts T, I, L, am_rs r) Q
  | 0, _, _, _, _, _, hw, _ => hw.elim
  | n + 1, v1, v2, v3, v4, I, hw, hE0 => by
    have ih := @sl_279_29 S d Q N T L r E0 n
    unfold lw_279_29 at hw
    try dsimp only at hw
    refine am_E.run [44, 132] 2000 (show (if v2 ≤ v4 then (am_E S 279 (d + 3) 0 0 132 [.ref 66, .int v1, .int v2, .int v3, .int v4, am_jk, am_jk] [] (N, am_ts T, I, L, am_rs r) Q) else (am_E S 279 (d + 3) 0 0 44 [.ref 66, .int v1, .int v2, .int v3, .int v4, .int v4, .int (v1 - 1)] [] (N, am_ts T, I, L, am_rs r) Q)) from ?_)
    by_cases hc : v2 ≤ v4
    · rw [if_pos hc] at hw ⊢
      exact hE0 _ _ _ hw
    · rw [if_neg hc] at hw ⊢
      obtain ⟨n44, hw⟩ := hw
      refine sl_279_44 n44 hw (fun o3 o4 I5 hw => ?_)
      · try dsimp only at hw
        refine am_E.run [84] 2000 (show (am_E S 279 (d + 3) 0 0 84 [.ref 66, .int v1, .int v2, .int v3, .int v4, .int o3, .int o4] [.int v1, .ref 66] (N, am_ts T, I5, L, am_rs r) Q) from ?_)
        refine am_E.go ⟨am_ki_ N T I5 L r _, s_280 hw (fun q6 hk => ⟨q6, rfl, rfl, hk⟩), ?_⟩
        intro v h9 hv
        obtain ⟨q6, rfl, rfl, hw⟩ := hv
        try dsimp only at hw
        refine am_E.run [29, 93] 2000 (show (if q6 = 0 then (am_E S 279 (d + 3) 0 0 29 [.ref 66, .int v1, .int v2, .int v3, .int (v4 + 1), .int o3, .int o4] [] (N, am_ts T, I5, L, am_rs r) Q) else (am_E S 279 (d + 3) 0 0 93 [.ref 66, .int v1, .int v2, .int v3, .int v4, .int o3, .int 0] [] (N, am_ts T, I5, L, am_rs r) Q)) from ?_)
        by_cases hc : q6 = 0
        · rw [if_pos hc] at hw ⊢
          exact am_E.junk (ih hw hE0) (am_le.cons (am_le.cons (am_le.cons (am_le.cons (am_le.cons (am_le.jk (am_le.jk am_le.nil)))))))
        · rw [if_neg hc] at hw ⊢
          obtain ⟨n93, hw⟩ := hw
          refine am_E.junk (lo := [.ref 66, .int v1, .int v2, .int v3, .int v4, am_jk, .int 0]) ?_ (am_le.cons (am_le.cons (am_le.cons (am_le.cons (am_le.cons (am_le.jk (am_le.cons am_le.nil)))))))
          refine sl_279_93 n93 hw (fun o7 I8 hw => ?_)
          · try dsimp only at hw
            refine am_E.run [29] 2000 (show (am_E S 279 (d + 3) 0 0 29 [.ref 66, .int v1, .int v2, .int (v3 + 1), .int (v4 + 1), am_jk, .int o7] [] (N, am_ts T, I8, L, am_rs r) Q) from ?_)
            exact am_E.junk (ih hw hE0) (am_le.cons (am_le.cons (am_le.cons (am_le.cons (am_le.cons (am_le.cons (am_le.jk am_le.nil)))))))
/-- KeyKeepersModel.findParted(I)I -/
def w_279 (x0 : Int32) (I : am_I) (K : Int32 → am_I → Prop) : Prop :=
  ∃ n4, lw_279_4 n4 x0 1 0 I (fun o1 o2 =>
    ∃ n29, lw_279_29 n29 x0 o1 0 0 I (fun o9 o10 I11 =>
      K o9 I11))
set_option maxRecDepth 100000 in
theorem s_279 {S : am_S} {d : Nat} {N : Nat} {T : Nat → Nat × Nat} {I : am_I} {L : am_J} {r : Nat → Nat → Option Nat} {Q : am_Q} {x0 : Int32} {K : Int32 → am_I → Prop} (hw : w_279 x0 I K) (hK : ∀ (q : Int32) (I1 : am_I), K q I1 → Q (some (.int q)) (N, am_ts T, I1, L, am_rs r)) : am_E S 279 (d + 3) 0 0 0 [.ref 66, .int x0, am_jk, am_jk, am_jk, am_jk, am_jk] [] (N, am_ts T, I, L, am_rs r) Q := by
  unfold w_279 at hw
  try dsimp only at hw
  refine am_E.run [4] 2000 (show (am_E S 279 (d + 3) 0 0 4 [.ref 66, .int x0, .int 1, .int 0, am_jk, am_jk, am_jk] [] (N, am_ts T, I, L, am_rs r) Q) from ?_)
  obtain ⟨n4, hw⟩ := hw
  refine sl_279_4 n4 hw (fun o1 o2 hw => ?_)
  · try dsimp only at hw
    refine am_E.run [29] 2000 (show (am_E S 279 (d + 3) 0 0 29 [.ref 66, .int x0, .int o1, .int 0, .int 0, am_jk, am_jk] [] (N, am_ts T, I, L, am_rs r) Q) from ?_)
    obtain ⟨n29, hw⟩ := hw
    refine sl_279_29 n29 hw (fun o9 o10 I11 hw => ?_)
    · try dsimp only at hw
      refine am_E.run [] 2000 (show (True ∧ Q (some (.int o9)) (N, am_ts T, I11, L, am_rs r)) from ?_)
      exact ⟨trivial, hK _ _ hw⟩
def lw_283_12 : Nat → Int32 → Int32 → Int32 → Int32 → am_I → (Int32 → Int32 → Int32 → Prop) → Prop
  | 0, _, _, _, _, _, _ => False
  | n + 1, v1, v2, v3, v4, I, E0 =>
    if (1 <<< ((I 68 1) &&& 31)) ≤ v4 then
      E0 v2 v3 v4
    else
      w_284 v4 I (fun q1 =>
        if q1 = 0 then
          lw_283_12 n v1 v2 v3 (v4 + 1) I E0
        else
          if v2 = v1 then
            lw_283_12 n v1 (v2 + 1) v4 (v4 + 1) I E0
          else
            lw_283_12 n v1 (v2 + 1) v3 (v4 + 1) I E0)
set_option maxRecDepth 100000 in
theorem sl_283_12 {S : am_S} {d : Nat} {Q : am_Q} {N : Nat} {T : Nat → Nat × Nat} {I : am_I} {L : am_J} {r : Nat → Nat → Option Nat} {E0 : Int32 → Int32 → Int32 → Prop} : ∀ (n : Nat) {v1 : Int32} {v2 : Int32} {v3 : Int32} {v4 : Int32}, lw_283_12 n v1 v2 v3 v4 I E0 → (∀ (o2 : Int32) (o3 : Int32) (o4 : Int32), E0 o2 o3 o4 → am_E S 283 (d + 2) 0 0 55 [.ref 66, .int v1, .int o2, .int o3, .int o4] [] (N, am_ts T, I, L, am_rs r) Q) → am_E S 283 (d + 2) 0 0 12 [.ref 66, .int v1, .int v2, .int v3, .int v4] [] (N, am_ts T, I, L, am_rs r) Q
  | 0, _, _, _, _, hw, _ => hw.elim
  | n + 1, v1, v2, v3, v4, hw, hE0 => by
    have ih := @sl_283_12 S d Q N T I L r E0 n
    unfold lw_283_12 at hw
    try dsimp only at hw
    refine am_E.run [28, 55] 2000 (show (if (1 <<< ((I 68 1) &&& 31)) ≤ v4 then (am_E S 283 (d + 2) 0 0 55 [.ref 66, .int v1, .int v2, .int v3, .int v4] [] (N, am_ts T, I, L, am_rs r) Q) else (am_E S 283 (d + 2) 0 0 28 [.ref 66, .int v1, .int v2, .int v3, .int v4] [.int v4, .ref 66] (N, am_ts T, I, L, am_rs r) Q)) from ?_)
    by_cases hc : (1 <<< ((I 68 1) &&& 31)) ≤ v4
    · rw [if_pos hc] at hw ⊢
      exact hE0 _ _ _ hw
    · rw [if_neg hc] at hw ⊢
      refine am_E.go ⟨am_ki_ N T I L r _, s_284 hw (fun q1 hk => ⟨q1, rfl, rfl, hk⟩), ?_⟩
      intro v h9 hv
      obtain ⟨q1, rfl, rfl, hw⟩ := hv
      try dsimp only at hw
      refine am_E.run [12] 2000 (show (if q1 = 0 then (am_E S 283 (d + 2) 0 0 12 [.ref 66, .int v1, .int v2, .int v3, .int (v4 + 1)] [] (N, am_ts T, I, L, am_rs r) Q) else (if v2 = v1 then (am_E S 283 (d + 2) 0 0 12 [.ref 66, .int v1, .int (v2 + 1), .int v4, .int (v4 + 1)] [] (N, am_ts T, I, L, am_rs r) Q) else (am_E S 283 (d + 2) 0 0 12 [.ref 66, .int v1, .int (v2 + 1), .int v3, .int (v4 + 1)] [] (N, am_ts T, I, L, am_rs r) Q))) from ?_)
      by_cases hc : q1 = 0
      · rw [if_pos hc] at hw ⊢
        exact ih hw hE0
      · rw [if_neg hc] at hw ⊢
        by_cases hc : v2 = v1
        · rw [if_pos hc] at hw ⊢
          exact ih hw hE0
        · rw [if_neg hc] at hw ⊢
          exact ih hw hE0
/-- KeyKeepersModel.out(I)I -/
def w_283 (x0 : Int32) (I : am_I) (K : Int32 → am_I → Prop) : Prop :=
  ∃ n12, lw_283_12 n12 x0 0 (-1) 0 (am_u I 66 0 0) (fun o2 o3 o4 =>
    if x0 = (-1) then
      K o2 (am_u I 66 0 0)
    else
      K o3 (am_u I 66 0 0))
set_option maxRecDepth 100000 in
theorem s_283 {S : am_S} {d : Nat} {N : Nat} {T : Nat → Nat × Nat} {I : am_I} {L : am_J} {r : Nat → Nat → Option Nat} {Q : am_Q} {x0 : Int32} {K : Int32 → am_I → Prop} (hw : w_283 x0 I K) (hK : ∀ (q : Int32) (I1 : am_I), K q I1 → Q (some (.int q)) (N, am_ts T, I1, L, am_rs r)) : am_E S 283 (d + 2) 0 0 0 [.ref 66, .int x0, am_jk, am_jk, am_jk] [] (N, am_ts T, I, L, am_rs r) Q := by
  unfold w_283 at hw
  try dsimp only at hw
  refine am_E.run [12] 2000 (show (am_E S 283 (d + 2) 0 0 12 [.ref 66, .int x0, .int 0, .int (-1), .int 0] [] (N, am_ts T, (am_u I 66 0 0), L, am_rs r) Q) from ?_)
  obtain ⟨n12, hw⟩ := hw
  refine sl_283_12 n12 hw (fun o2 o3 o4 hw => ?_)
  · try dsimp only at hw
    refine am_E.run [] 2000 (show (if x0 = (-1) then (True ∧ Q (some (.int o2)) (N, am_ts T, (am_u I 66 0 0), L, am_rs r)) else (True ∧ Q (some (.int o3)) (N, am_ts T, (am_u I 66 0 0), L, am_rs r))) from ?_)
    by_cases hc : x0 = (-1)
    · rw [if_pos hc] at hw ⊢
      exact ⟨trivial, hK _ _ hw⟩
    · rw [if_neg hc] at hw ⊢
      exact ⟨trivial, hK _ _ hw⟩
def lw_285_30 : Nat → Int32 → Int32 → Int32 → am_I → (Int32 → Int32 → am_I → Prop) → Prop
  | 0, _, _, _, _, _ => False
  | n + 1, v1, v2, v3, I, E0 =>
    if (1 <<< ((I 68 1) &&& 31)) ≤ v3 then
      E0 v2 v3 I
    else
      w_284 v3 I (fun q1 =>
        ¬ (v3 < 0 ∨ 256 ≤ Int32.toNatClampNeg v3) ∧
        if v2 = 0 then
          ¬ (v3 < 0 ∨ 256 ≤ Int32.toNatClampNeg v3) ∧
          if ((am_u I 96 (Int32.toNatClampNeg v3) (vp_nar .boolean q1)) 96 (Int32.toNatClampNeg v3)) = 0 then
            lw_285_30 n v1 0 (v3 + 1) (am_u I 96 (Int32.toNatClampNeg v3) (vp_nar .boolean q1)) E0
          else
            lw_285_30 n v1 1 (v3 + 1) (am_u I 96 (Int32.toNatClampNeg v3) (vp_nar .boolean q1)) E0
        else
          lw_285_30 n v1 1 (v3 + 1) (am_u I 96 (Int32.toNatClampNeg v3) (vp_nar .boolean q1)) E0)
set_option maxRecDepth 100000 in
theorem sl_285_30 {S : am_S} {d : Nat} {Q : am_Q} {N : Nat} {T : Nat → Nat × Nat} {L : am_J} {r : Nat → Nat → Option Nat} {E0 : Int32 → Int32 → am_I → Prop} : ∀ (n : Nat) {v1 : Int32} {v2 : Int32} {v3 : Int32} {I : am_I}, lw_285_30 n v1 v2 v3 I E0 → (∀ (o2 : Int32) (o3 : Int32) (I1 : am_I), E0 o2 o3 I1 → am_E S 285 (d + 2) 0 0 78 [.ref 66, .int v1, .int o2, .int o3, am_jk, am_jk, am_jk] [] (N, am_ts T, I1, L, am_rs r) Q) → am_E S 285 (d + 2) 0 0 30 [.ref 66, .int v1, .int v2, .int v3, am_jk, am_jk, am_jk] [] (N, am_ts T, I, L, am_rs r) Q
  | 0, _, _, _, _, hw, _ => hw.elim
  | n + 1, v1, v2, v3, I, hw, hE0 => by
    have ih := @sl_285_30 S d Q N T L r E0 n
    unfold lw_285_30 at hw
    try dsimp only at hw
    refine am_E.run [49, 78] 2000 (show (if (1 <<< ((I 68 1) &&& 31)) ≤ v3 then (am_E S 285 (d + 2) 0 0 78 [.ref 66, .int v1, .int v2, .int v3, am_jk, am_jk, am_jk] [] (N, am_ts T, I, L, am_rs r) Q) else (am_E S 285 (d + 2) 0 0 49 [.ref 66, .int v1, .int v2, .int v3, am_jk, am_jk, am_jk] [.int v3, .ref 66, .int v3, .ref 96] (N, am_ts T, I, L, am_rs r) Q)) from ?_)
    by_cases hc : (1 <<< ((I 68 1) &&& 31)) ≤ v3
    · rw [if_pos hc] at hw ⊢
      exact hE0 _ _ _ hw
    · rw [if_neg hc] at hw ⊢
      refine am_E.go ⟨am_ki_ N T I L r _, s_284 hw (fun q1 hk => ⟨q1, rfl, rfl, hk⟩), ?_⟩
      intro v h9 hv
      obtain ⟨q1, rfl, rfl, hw⟩ := hv
      try dsimp only at hw
      refine am_E.run [30] 2000 (show (if v3 < 0 ∨ 256 ≤ Int32.toNatClampNeg v3 then False else (if v2 = 0 then (if v3 < 0 ∨ 256 ≤ Int32.toNatClampNeg v3 then False else (if ((am_u I 96 (Int32.toNatClampNeg v3) (vp_nar .boolean q1)) 96 (Int32.toNatClampNeg v3)) = 0 then (am_E S 285 (d + 2) 0 0 30 [.ref 66, .int v1, .int 0, .int (v3 + 1), am_jk, am_jk, am_jk] [] (N, am_ts T, (am_u I 96 (Int32.toNatClampNeg v3) (vp_nar .boolean q1)), L, am_rs r) Q) else (am_E S 285 (d + 2) 0 0 30 [.ref 66, .int v1, .int 1, .int (v3 + 1), am_jk, am_jk, am_jk] [] (N, am_ts T, (am_u I 96 (Int32.toNatClampNeg v3) (vp_nar .boolean q1)), L, am_rs r) Q))) else (am_E S 285 (d + 2) 0 0 30 [.ref 66, .int v1, .int 1, .int (v3 + 1), am_jk, am_jk, am_jk] [] (N, am_ts T, (am_u I 96 (Int32.toNatClampNeg v3) (vp_nar .boolean q1)), L, am_rs r) Q))) from ?_)
      refine am_ifn hw.1 ?_
      replace hw := hw.2
      by_cases hc : v2 = 0
      · rw [if_pos hc] at hw ⊢
        refine am_ifn hw.1 ?_
        replace hw := hw.2
        by_cases hc : ((am_u I 96 (Int32.toNatClampNeg v3) (vp_nar .boolean q1)) 96 (Int32.toNatClampNeg v3)) = 0
        · rw [if_pos hc] at hw ⊢
          exact ih hw hE0
        · rw [if_neg hc] at hw ⊢
          exact ih hw hE0
      · rw [if_neg hc] at hw ⊢
        exact ih hw hE0
def lw_285_94 : Nat → Int32 → Int32 → Int32 → Int32 → am_I → (Int32 → Int32 → Int32 → am_I → Prop) → Prop
  | 0, _, _, _, _, _, _ => False
  | n + 1, v1, v3, v4, v5, I, E0 =>
    if (1 <<< ((I 68 1) &&& 31)) ≤ v5 then
      E0 v3 v4 v5 I
    else
      w_286 v5 I (fun q5 I6 =>
        if v3 ≤ q5 then
          if v3 ≤ q5 then
            lw_285_94 n v1 v3 v4 (v5 + 1) I6 E0
          else
            lw_285_94 n v1 q5 v4 (v5 + 1) I6 E0
        else
          if v3 ≤ q5 then
            lw_285_94 n v1 v3 v5 (v5 + 1) I6 E0
          else
            lw_285_94 n v1 q5 v5 (v5 + 1) I6 E0)
set_option maxRecDepth 100000 in
theorem sl_285_94 {S : am_S} {d : Nat} {Q : am_Q} {N : Nat} {T : Nat → Nat × Nat} {L : am_J} {r : Nat → Nat → Option Nat} {E0 : Int32 → Int32 → Int32 → am_I → Prop} : ∀ (n : Nat) {v1 : Int32} {v3 : Int32} {v4 : Int32} {v5 : Int32} {I : am_I}, lw_285_94 n v1 v3 v4 v5 I E0 → (∀ (o3 : Int32) (o4 : Int32) (o5 : Int32) (I1 : am_I), E0 o3 o4 o5 I1 → am_E S 285 (d + 2) 0 0 149 [.ref 66, .int v1, am_jk, .int o3, .int o4, .int o5, am_jk] [] (N, am_ts T, I1, L, am_rs r) Q) → am_E S 285 (d + 2) 0 0 94 [.ref 66, .int v1, am_jk, .int v3, .int v4, .int v5, am_jk] [] (N, am_ts T, I, L, am_rs r) Q
  | 0, _, _, _, _, _, hw, _ => hw.elim
  | n + 1, v1, v3, v4, v5, I, hw, hE0 => by
    have ih := @sl_285_94 S d Q N T L r E0 n
    unfold lw_285_94 at hw
    try dsimp only at hw
    refine am_E.run [110, 149] 2000 (show (if (1 <<< ((I 68 1) &&& 31)) ≤ v5 then (am_E S 285 (d + 2) 0 0 149 [.ref 66, .int v1, am_jk, .int v3, .int v4, .int v5, am_jk] [] (N, am_ts T, I, L, am_rs r) Q) else (am_E S 285 (d + 2) 0 0 110 [.ref 66, .int v1, am_jk, .int v3, .int v4, .int v5, am_jk] [.int v5, .ref 66] (N, am_ts T, I, L, am_rs r) Q)) from ?_)
    by_cases hc : (1 <<< ((I 68 1) &&& 31)) ≤ v5
    · rw [if_pos hc] at hw ⊢
      exact hE0 _ _ _ _ hw
    · rw [if_neg hc] at hw ⊢
      refine am_E.go ⟨am_ki_I N T L r _, s_286 hw (fun q5 I6 hk => ⟨q5, I6, rfl, rfl, hk⟩), ?_⟩
      intro v h9 hv
      obtain ⟨q5, I6, rfl, rfl, hw⟩ := hv
      try dsimp only at hw
      refine am_E.run [94] 2000 (show (if v3 ≤ q5 then (if v3 ≤ q5 then (am_E S 285 (d + 2) 0 0 94 [.ref 66, .int v1, am_jk, .int v3, .int v4, .int (v5 + 1), .int q5] [] (N, am_ts T, I6, L, am_rs r) Q) else (am_E S 285 (d + 2) 0 0 94 [.ref 66, .int v1, am_jk, .int q5, .int v4, .int (v5 + 1), .int q5] [] (N, am_ts T, I6, L, am_rs r) Q)) else (if v3 ≤ q5 then (am_E S 285 (d + 2) 0 0 94 [.ref 66, .int v1, am_jk, .int v3, .int v5, .int (v5 + 1), .int q5] [] (N, am_ts T, I6, L, am_rs r) Q) else (am_E S 285 (d + 2) 0 0 94 [.ref 66, .int v1, am_jk, .int q5, .int v5, .int (v5 + 1), .int q5] [] (N, am_ts T, I6, L, am_rs r) Q))) from ?_)
      by_cases hc : v3 ≤ q5
      · rw [if_pos hc] at hw ⊢
        by_cases hc : v3 ≤ q5
        · rw [if_pos hc] at hw ⊢
          exact am_E.junk (ih hw hE0) (am_le.cons (am_le.cons (am_le.cons (am_le.cons (am_le.cons (am_le.cons (am_le.jk am_le.nil)))))))
        · rw [if_neg hc] at hw ⊢
          exact am_E.junk (ih hw hE0) (am_le.cons (am_le.cons (am_le.cons (am_le.cons (am_le.cons (am_le.cons (am_le.jk am_le.nil)))))))
      · rw [if_neg hc] at hw ⊢
        by_cases hc : v3 ≤ q5
        · rw [if_pos hc] at hw ⊢
          exact am_E.junk (ih hw hE0) (am_le.cons (am_le.cons (am_le.cons (am_le.cons (am_le.cons (am_le.cons (am_le.jk am_le.nil)))))))
        · rw [if_neg hc] at hw ⊢
          exact am_E.junk (ih hw hE0) (am_le.cons (am_le.cons (am_le.cons (am_le.cons (am_le.cons (am_le.cons (am_le.jk am_le.nil)))))))
/-- KeyKeepersModel.next(I)I -/
def w_285 (x0 : Int32) (I : am_I) (K : Int32 → am_I → Prop) : Prop :=
  if (f_182 (Int32.toInt64 x0) 0 1) = 0 then
    K (-1) (am_u I 66 0 0)
  else
    if (I 68 1) = 0 then
      K (-1) (am_u I 66 0 0)
    else
      ∃ n30, lw_285_30 n30 x0 0 0 (am_u I 66 0 0) (fun o2 o3 I4 =>
        if o2 = 0 then
          K (-1) I4
        else
          ∃ n94, lw_285_94 n94 x0 100000000 (-1) 1 I4 (fun o7 o8 o9 I10 =>
            if x0 = 0 then
              K o8 I10
            else
              K o7 I10))
set_option maxRecDepth 100000 in
theorem s_285 {S : am_S} {d : Nat} {N : Nat} {T : Nat → Nat × Nat} {I : am_I} {L : am_J} {r : Nat → Nat → Option Nat} {Q : am_Q} {x0 : Int32} {K : Int32 → am_I → Prop} (hw : w_285 x0 I K) (hK : ∀ (q : Int32) (I1 : am_I), K q I1 → Q (some (.int q)) (N, am_ts T, I1, L, am_rs r)) : am_E S 285 (d + 2) 0 0 0 [.ref 66, .int x0, am_jk, am_jk, am_jk, am_jk, am_jk] [] (N, am_ts T, I, L, am_rs r) Q := by
  unfold w_285 at hw
  try dsimp only at hw
  refine am_E.run [9] 2000 (show (am_E S 285 (d + 2) 0 0 9 [.ref 66, .int x0, am_jk, am_jk, am_jk, am_jk, am_jk] [.long 1, .long 0, .long (Int32.toInt64 x0)] (N, am_ts T, (am_u I 66 0 0), L, am_rs r) Q) from ?_)
  refine am_E.go ⟨fun v h9 => v = some (.int (f_182 (Int32.toInt64 x0) 0 1)) ∧ h9 = (N, am_ts T, (am_u I 66 0 0), L, am_rs r), s_182 ⟨rfl, rfl⟩, ?_⟩
  intro v h9 hv
  obtain ⟨rfl, rfl⟩ := hv
  refine am_E.run [30] 2000 (show (if (f_182 (Int32.toInt64 x0) 0 1) = 0 then (True ∧ Q (some (.int (-1))) (N, am_ts T, (am_u I 66 0 0), L, am_rs r)) else (if (I 68 1) = 0 then (True ∧ Q (some (.int (-1))) (N, am_ts T, (am_u I 66 0 0), L, am_rs r)) else (am_E S 285 (d + 2) 0 0 30 [.ref 66, .int x0, .int 0, .int 0, am_jk, am_jk, am_jk] [] (N, am_ts T, (am_u I 66 0 0), L, am_rs r) Q))) from ?_)
  by_cases hc : (f_182 (Int32.toInt64 x0) 0 1) = 0
  · rw [if_pos hc] at hw ⊢
    exact ⟨trivial, hK _ _ hw⟩
  · rw [if_neg hc] at hw ⊢
    by_cases hc : (I 68 1) = 0
    · rw [if_pos hc] at hw ⊢
      exact ⟨trivial, hK _ _ hw⟩
    · rw [if_neg hc] at hw ⊢
      obtain ⟨n30, hw⟩ := hw
      refine sl_285_30 n30 hw (fun o2 o3 I4 hw => ?_)
      · try dsimp only at hw
        refine am_E.run [94] 2000 (show (if o2 = 0 then (True ∧ Q (some (.int (-1))) (N, am_ts T, I4, L, am_rs r)) else (am_E S 285 (d + 2) 0 0 94 [.ref 66, .int x0, .int o2, .int 100000000, .int (-1), .int 1, am_jk] [] (N, am_ts T, I4, L, am_rs r) Q)) from ?_)
        by_cases hc : o2 = 0
        · rw [if_pos hc] at hw ⊢
          exact ⟨trivial, hK _ _ hw⟩
        · rw [if_neg hc] at hw ⊢
          obtain ⟨n94, hw⟩ := hw
          refine am_E.junk (lo := [.ref 66, .int x0, am_jk, .int 100000000, .int (-1), .int 1, am_jk]) ?_ (am_le.cons (am_le.cons (am_le.jk (am_le.cons (am_le.cons (am_le.cons (am_le.cons am_le.nil)))))))
          refine sl_285_94 n94 hw (fun o7 o8 o9 I10 hw => ?_)
          · try dsimp only at hw
            refine am_E.run [] 2000 (show (if x0 = 0 then (True ∧ Q (some (.int o8)) (N, am_ts T, I10, L, am_rs r)) else (True ∧ Q (some (.int o7)) (N, am_ts T, I10, L, am_rs r))) from ?_)
            by_cases hc : x0 = 0
            · rw [if_pos hc] at hw ⊢
              exact ⟨trivial, hK _ _ hw⟩
            · rw [if_neg hc] at hw ⊢
              exact ⟨trivial, hK _ _ hw⟩
def lw_289_34 : Nat → Int32 → Int32 → Int32 → Int32 → am_I → (Int32 → Int32 → Prop) → Prop
  | 0, _, _, _, _, _, _ => False
  | n + 1, v1, v2, v3, v4, I, E0 =>
    if (I 68 1) ≤ v4 then
      E0 v3 v4
    else
      ¬ ((50 + v4) < 0 ∨ 5510 ≤ Int32.toNatClampNeg (50 + v4)) ∧
      lw_289_34 n v1 v2 (v3 + ((2 * (I 68 (Int32.toNatClampNeg (50 + v4)))) - 1)) (v4 + 1) I E0
set_option maxRecDepth 100000 in
theorem sl_289_34 {S : am_S} {d : Nat} {Q : am_Q} {N : Nat} {T : Nat → Nat × Nat} {I : am_I} {L : am_J} {r : Nat → Nat → Option Nat} {E0 : Int32 → Int32 → Prop} : ∀ (n : Nat) {v1 : Int32} {v2 : Int32} {v3 : Int32} {v4 : Int32}, lw_289_34 n v1 v2 v3 v4 I E0 → (∀ (o3 : Int32) (o4 : Int32), E0 o3 o4 → am_E S 289 (d + 1) 0 0 68 [.ref 66, .int v1, .int v2, .int o3, .int o4, am_jk] [] (N, am_ts T, I, L, am_rs r) Q) → am_E S 289 (d + 1) 0 0 34 [.ref 66, .int v1, .int v2, .int v3, .int v4, am_jk] [] (N, am_ts T, I, L, am_rs r) Q
  | 0, _, _, _, _, hw, _ => hw.elim
  | n + 1, v1, v2, v3, v4, hw, hE0 => by
    have ih := @sl_289_34 S d Q N T I L r E0 n
    unfold lw_289_34 at hw
    try dsimp only at hw
    refine am_E.run [34, 68] 2000 (show (if (I 68 1) ≤ v4 then (am_E S 289 (d + 1) 0 0 68 [.ref 66, .int v1, .int v2, .int v3, .int v4, am_jk] [] (N, am_ts T, I, L, am_rs r) Q) else (if (50 + v4) < 0 ∨ 5510 ≤ Int32.toNatClampNeg (50 + v4) then False else (am_E S 289 (d + 1) 0 0 34 [.ref 66, .int v1, .int v2, .int (v3 + ((2 * (I 68 (Int32.toNatClampNeg (50 + v4)))) - 1)), .int (v4 + 1), am_jk] [] (N, am_ts T, I, L, am_rs r) Q))) from ?_)
    by_cases hc : (I 68 1) ≤ v4
    · rw [if_pos hc] at hw ⊢
      exact hE0 _ _ hw
    · rw [if_neg hc] at hw ⊢
      refine am_ifn hw.1 ?_
      replace hw := hw.2
      exact ih hw hE0
def lw_289_74 : Nat → Int32 → Int32 → Int32 → Int32 → Int32 → am_I → (Int32 → Int32 → Prop) → Prop
  | 0, _, _, _, _, _, _, _ => False
  | n + 1, v1, v2, v3, v4, v5, I, E0 =>
    if (10 : Int32) ≤ v5 then
      E0 v4 v5
    else
      w_290 v5 v1 v3 I (fun q3 =>
        if q3 = 0 then
          lw_289_74 n v1 v2 v3 (v4 ||| (1 <<< (v5 &&& 31))) (v5 + 1) I E0
        else
          lw_289_74 n v1 v2 v3 (v4 ||| 0) (v5 + 1) I E0)
set_option maxRecDepth 100000 in
theorem sl_289_74 {S : am_S} {d : Nat} {Q : am_Q} {N : Nat} {T : Nat → Nat × Nat} {I : am_I} {L : am_J} {r : Nat → Nat → Option Nat} {E0 : Int32 → Int32 → Prop} : ∀ (n : Nat) {v1 : Int32} {v2 : Int32} {v3 : Int32} {v4 : Int32} {v5 : Int32}, lw_289_74 n v1 v2 v3 v4 v5 I E0 → (∀ (o4 : Int32) (o5 : Int32), E0 o4 o5 → am_E S 289 (d + 1) 0 0 111 [.ref 66, .int v1, .int v2, .int v3, .int o4, .int o5] [] (N, am_ts T, I, L, am_rs r) Q) → am_E S 289 (d + 1) 0 0 74 [.ref 66, .int v1, .int v2, .int v3, .int v4, .int v5] [] (N, am_ts T, I, L, am_rs r) Q
  | 0, _, _, _, _, _, hw, _ => hw.elim
  | n + 1, v1, v2, v3, v4, v5, hw, hE0 => by
    have ih := @sl_289_74 S d Q N T I L r E0 n
    unfold lw_289_74 at hw
    try dsimp only at hw
    refine am_E.run [88, 111] 2000 (show (if (10 : Int32) ≤ v5 then (am_E S 289 (d + 1) 0 0 111 [.ref 66, .int v1, .int v2, .int v3, .int v4, .int v5] [] (N, am_ts T, I, L, am_rs r) Q) else (am_E S 289 (d + 1) 0 0 88 [.ref 66, .int v1, .int v2, .int v3, .int v4, .int v5] [.int v3, .int v1, .int v5, .ref 66, .int v4] (N, am_ts T, I, L, am_rs r) Q)) from ?_)
    by_cases hc : (10 : Int32) ≤ v5
    · rw [if_pos hc] at hw ⊢
      exact hE0 _ _ hw
    · rw [if_neg hc] at hw ⊢
      refine am_E.go ⟨am_ki_ N T I L r _, s_290 hw (fun q3 hk => ⟨q3, rfl, rfl, hk⟩), ?_⟩
      intro v h9 hv
      obtain ⟨q3, rfl, rfl, hw⟩ := hv
      try dsimp only at hw
      refine am_E.run [74] 2000 (show (if q3 = 0 then (am_E S 289 (d + 1) 0 0 74 [.ref 66, .int v1, .int v2, .int v3, .int (v4 ||| (1 <<< (v5 &&& 31))), .int (v5 + 1)] [] (N, am_ts T, I, L, am_rs r) Q) else (am_E S 289 (d + 1) 0 0 74 [.ref 66, .int v1, .int v2, .int v3, .int (v4 ||| 0), .int (v5 + 1)] [] (N, am_ts T, I, L, am_rs r) Q)) from ?_)
      by_cases hc : q3 = 0
      · rw [if_pos hc] at hw ⊢
        exact ih hw hE0
      · rw [if_neg hc] at hw ⊢
        exact ih hw hE0
/-- KeyKeepersModel.sure(II)I -/
def w_289 (x0 : Int32) (x1 : Int32) (I : am_I) (K : Int32 → am_I → Prop) : Prop :=
  if (f_182 (Int32.toInt64 x0) 0 8) = 0 then
    K (-1) (am_u I 66 0 0)
  else
    if (f_182 (Int32.toInt64 x1) 0 1) = 0 then
      K (-1) (am_u I 66 0 0)
    else
      ∃ n34, lw_289_34 n34 x0 x1 0 0 (am_u I 66 0 0) (fun o1 o2 =>
        ∃ n74, lw_289_74 n74 x0 x1 o1 0 0 (am_u I 66 0 0) (fun o4 o5 =>
          if x1 = 0 then
            w_236 o4 (fun q6 =>
              K q6 (am_u I 66 0 0))
          else
            K o4 (am_u I 66 0 0)))
set_option maxRecDepth 100000 in
theorem s_289 {S : am_S} {d : Nat} {N : Nat} {T : Nat → Nat × Nat} {I : am_I} {L : am_J} {r : Nat → Nat → Option Nat} {Q : am_Q} {x0 : Int32} {x1 : Int32} {K : Int32 → am_I → Prop} (hw : w_289 x0 x1 I K) (hK : ∀ (q : Int32) (I1 : am_I), K q I1 → Q (some (.int q)) (N, am_ts T, I1, L, am_rs r)) : am_E S 289 (d + 1) 0 0 0 [.ref 66, .int x0, .int x1, am_jk, am_jk, am_jk] [] (N, am_ts T, I, L, am_rs r) Q := by
  unfold w_289 at hw
  try dsimp only at hw
  refine am_E.run [11] 2000 (show (am_E S 289 (d + 1) 0 0 11 [.ref 66, .int x0, .int x1, am_jk, am_jk, am_jk] [.long 8, .long 0, .long (Int32.toInt64 x0)] (N, am_ts T, (am_u I 66 0 0), L, am_rs r) Q) from ?_)
  refine am_E.go ⟨fun v h9 => v = some (.int (f_182 (Int32.toInt64 x0) 0 8)) ∧ h9 = (N, am_ts T, (am_u I 66 0 0), L, am_rs r), s_182 ⟨rfl, rfl⟩, ?_⟩
  intro v h9 hv
  obtain ⟨rfl, rfl⟩ := hv
  refine am_E.run [21] 2000 (show (if (f_182 (Int32.toInt64 x0) 0 8) = 0 then (True ∧ Q (some (.int (-1))) (N, am_ts T, (am_u I 66 0 0), L, am_rs r)) else (am_E S 289 (d + 1) 0 0 21 [.ref 66, .int x0, .int x1, am_jk, am_jk, am_jk] [.long 1, .long 0, .long (Int32.toInt64 x1)] (N, am_ts T, (am_u I 66 0 0), L, am_rs r) Q)) from ?_)
  by_cases hc : (f_182 (Int32.toInt64 x0) 0 8) = 0
  · rw [if_pos hc] at hw ⊢
    exact ⟨trivial, hK _ _ hw⟩
  · rw [if_neg hc] at hw ⊢
    refine am_E.go ⟨fun v h9 => v = some (.int (f_182 (Int32.toInt64 x1) 0 1)) ∧ h9 = (N, am_ts T, (am_u I 66 0 0), L, am_rs r), s_182 ⟨rfl, rfl⟩, ?_⟩
    intro v h9 hv
    obtain ⟨rfl, rfl⟩ := hv
    refine am_E.run [34] 2000 (show (if (f_182 (Int32.toInt64 x1) 0 1) = 0 then (True ∧ Q (some (.int (-1))) (N, am_ts T, (am_u I 66 0 0), L, am_rs r)) else (am_E S 289 (d + 1) 0 0 34 [.ref 66, .int x0, .int x1, .int 0, .int 0, am_jk] [] (N, am_ts T, (am_u I 66 0 0), L, am_rs r) Q)) from ?_)
    by_cases hc : (f_182 (Int32.toInt64 x1) 0 1) = 0
    · rw [if_pos hc] at hw ⊢
      exact ⟨trivial, hK _ _ hw⟩
    · rw [if_neg hc] at hw ⊢
      obtain ⟨n34, hw⟩ := hw
      refine sl_289_34 n34 hw (fun o1 o2 hw => ?_)
      · try dsimp only at hw
        refine am_E.run [74] 2000 (show (am_E S 289 (d + 1) 0 0 74 [.ref 66, .int x0, .int x1, .int o1, .int 0, .int 0] [] (N, am_ts T, (am_u I 66 0 0), L, am_rs r) Q) from ?_)
        obtain ⟨n74, hw⟩ := hw
        refine sl_289_74 n74 hw (fun o4 o5 hw => ?_)
        · try dsimp only at hw
          refine am_E.run [117] 2000 (show (if x1 = 0 then (am_E S 289 (d + 1) 0 0 117 [.ref 66, .int x0, .int x1, .int o1, .int o4, .int o5] [.int o4] (N, am_ts T, (am_u I 66 0 0), L, am_rs r) Q) else (True ∧ Q (some (.int o4)) (N, am_ts T, (am_u I 66 0 0), L, am_rs r))) from ?_)
          by_cases hc : x1 = 0
          · rw [if_pos hc] at hw ⊢
            refine am_E.go ⟨am_ki_ N T (am_u I 66 0 0) L r _, s_236 hw (fun q6 hk => ⟨q6, rfl, rfl, hk⟩), ?_⟩
            intro v h9 hv
            obtain ⟨q6, rfl, rfl, hw⟩ := hv
            try dsimp only at hw
            refine am_E.run [] 2000 (show (True ∧ Q (some (.int q6)) (N, am_ts T, (am_u I 66 0 0), L, am_rs r)) from ?_)
            exact ⟨trivial, hK _ _ hw⟩
          · rw [if_neg hc] at hw ⊢
            exact ⟨trivial, hK _ _ hw⟩
