/-- KeyKeepersModel.isBarred(III)Z -/
def w_242 (x0 : Int32) (x1 : Int32) (x2 : Int32) (I : am_I) (L : am_J) (K : Int32 → am_I → am_J → Prop) : Prop :=
  w_235 (I 68 4) 3 x0 x1 x2 (-1) 0 I L (fun q1 I2 L3 =>
    if (lg_cmp q1 1) = 0 then
      K 1 I2 L3
    else
      K 0 I2 L3)
set_option maxRecDepth 100000 in
theorem s_242 {S : am_S} {d : Nat} {N : Nat} {T : Nat → Nat × Nat} {I : am_I} {L : am_J} {r : Nat → Nat → Option Nat} {Q : am_Q} {x0 : Int32} {x1 : Int32} {x2 : Int32} {K : Int32 → am_I → am_J → Prop} (hw : w_242 x0 x1 x2 I L K) (hK : ∀ (q : Int32) (I1 : am_I) (L1 : am_J), K q I1 L1 → Q (some (.int q)) (N, am_ts T, I1, L1, am_rs r)) : am_E S 242 (d + 5) 0 0 0 [.ref 66, .int x0, .int x1, .int x2] [] (N, am_ts T, I, L, am_rs r) Q := by
  unfold w_242 at hw
  try dsimp only at hw
  refine am_E.run [13] 2000 (show (am_E S 242 (d + 5) 0 0 13 [.ref 66, .int x0, .int x1, .int x2] [.long 0, .int (-1), .int x2, .int x1, .int x0, .int 3, .int (I 68 4), .ref 66] (N, am_ts T, I, L, am_rs r) Q) from ?_)
  refine am_E.go ⟨am_kl_IL N T r _, s_235 hw (fun q1 I2 L3 hk => ⟨q1, I2, L3, rfl, rfl, hk⟩), ?_⟩
  intro v h9 hv
  obtain ⟨q1, I2, L3, rfl, rfl, hw⟩ := hv
  try dsimp only at hw
  refine am_E.run [] 2000 (show (if (lg_cmp q1 1) = 0 then (((1 : Int32) = 0 ∨ (1 : Int32) = 1) ∧ Q (some (.int 1)) (N, am_ts T, I2, L3, am_rs r)) else (((0 : Int32) = 0 ∨ (0 : Int32) = 1) ∧ Q (some (.int 0)) (N, am_ts T, I2, L3, am_rs r))) from ?_)
  by_cases hc : (lg_cmp q1 1) = 0
  · rw [if_pos hc] at hw ⊢
    exact ⟨Or.inr rfl, hK _ _ _ hw⟩
  · rw [if_neg hc] at hw ⊢
    exact ⟨Or.inl rfl, hK _ _ _ hw⟩
/-- KeyKeepersModel.gainsOf(II)I -/
def w_243 (x0 : Int32) (x1 : Int32) (I : am_I) (L : am_J) (K : Int32 → am_I → am_J → Prop) : Prop :=
  ¬ ((34 + x0) < 0 ∨ 5510 ≤ Int32.toNatClampNeg (34 + x0)) ∧
  w_235 (I 68 4) 1 x0 (-1) (-1) x1 (3 * (Int32.toInt64 (I 68 (Int32.toNatClampNeg (34 + x0))))) I L (fun q1 I2 L3 =>
    K (f_241 q1 0 999) I2 L3)
set_option maxRecDepth 100000 in
theorem s_243 {S : am_S} {d : Nat} {N : Nat} {T : Nat → Nat × Nat} {I : am_I} {L : am_J} {r : Nat → Nat → Option Nat} {Q : am_Q} {x0 : Int32} {x1 : Int32} {K : Int32 → am_I → am_J → Prop} (hw : w_243 x0 x1 I L K) (hK : ∀ (q : Int32) (I1 : am_I) (L1 : am_J), K q I1 L1 → Q (some (.int q)) (N, am_ts T, I1, L1, am_rs r)) : am_E S 243 (d + 5) 0 0 0 [.ref 66, .int x0, .int x1] [] (N, am_ts T, I, L, am_rs r) Q := by
  unfold w_243 at hw
  try dsimp only at hw
  refine am_E.run [26] 2000 (show (if (34 + x0) < 0 ∨ 5510 ≤ Int32.toNatClampNeg (34 + x0) then False else (am_E S 243 (d + 5) 0 0 26 [.ref 66, .int x0, .int x1] [.long (3 * (Int32.toInt64 (I 68 (Int32.toNatClampNeg (34 + x0))))), .int x1, .int (-1), .int (-1), .int x0, .int 1, .int (I 68 4), .ref 66] (N, am_ts T, I, L, am_rs r) Q)) from ?_)
  refine am_ifn hw.1 ?_
  replace hw := hw.2
  refine am_E.go ⟨am_kl_IL N T r _, s_235 hw (fun q1 I2 L3 hk => ⟨q1, I2, L3, rfl, rfl, hk⟩), ?_⟩
  intro v h9 hv
  obtain ⟨q1, I2, L3, rfl, rfl, hw⟩ := hv
  try dsimp only at hw
  refine am_E.run [33] 2000 (show (am_E S 243 (d + 5) 0 0 33 [.ref 66, .int x0, .int x1] [.int 999, .int 0, .long q1] (N, am_ts T, I2, L3, am_rs r) Q) from ?_)
  refine am_E.go ⟨fun v h9 => v = some (.int (f_241 q1 0 999)) ∧ h9 = (N, am_ts T, I2, L3, am_rs r), s_241 ⟨rfl, rfl⟩, ?_⟩
  intro v h9 hv
  obtain ⟨rfl, rfl⟩ := hv
  refine am_E.run [] 2000 (show (True ∧ Q (some (.int (f_241 q1 0 999))) (N, am_ts T, I2, L3, am_rs r)) from ?_)
  exact ⟨trivial, hK _ _ _ hw⟩
/-- KeyKeepersModel.finesOf(II)I -/
def w_244 (x0 : Int32) (x1 : Int32) (I : am_I) (L : am_J) (K : Int32 → am_I → am_J → Prop) : Prop :=
  ¬ ((26 + x0) < 0 ∨ 5510 ≤ Int32.toNatClampNeg (26 + x0)) ∧
  w_235 (I 68 4) 2 x0 (-1) (-1) x1 (Int32.toInt64 (I 68 (Int32.toNatClampNeg (26 + x0)))) I L (fun q1 I2 L3 =>
    K (f_241 q1 0 999) I2 L3)
set_option maxRecDepth 100000 in
theorem s_244 {S : am_S} {d : Nat} {N : Nat} {T : Nat → Nat × Nat} {I : am_I} {L : am_J} {r : Nat → Nat → Option Nat} {Q : am_Q} {x0 : Int32} {x1 : Int32} {K : Int32 → am_I → am_J → Prop} (hw : w_244 x0 x1 I L K) (hK : ∀ (q : Int32) (I1 : am_I) (L1 : am_J), K q I1 L1 → Q (some (.int q)) (N, am_ts T, I1, L1, am_rs r)) : am_E S 244 (d + 5) 0 0 0 [.ref 66, .int x0, .int x1] [] (N, am_ts T, I, L, am_rs r) Q := by
  unfold w_244 at hw
  try dsimp only at hw
  refine am_E.run [22] 2000 (show (if (26 + x0) < 0 ∨ 5510 ≤ Int32.toNatClampNeg (26 + x0) then False else (am_E S 244 (d + 5) 0 0 22 [.ref 66, .int x0, .int x1] [.long (Int32.toInt64 (I 68 (Int32.toNatClampNeg (26 + x0)))), .int x1, .int (-1), .int (-1), .int x0, .int 2, .int (I 68 4), .ref 66] (N, am_ts T, I, L, am_rs r) Q)) from ?_)
  refine am_ifn hw.1 ?_
  replace hw := hw.2
  refine am_E.go ⟨am_kl_IL N T r _, s_235 hw (fun q1 I2 L3 hk => ⟨q1, I2, L3, rfl, rfl, hk⟩), ?_⟩
  intro v h9 hv
  obtain ⟨q1, I2, L3, rfl, rfl, hw⟩ := hv
  try dsimp only at hw
  refine am_E.run [29] 2000 (show (am_E S 244 (d + 5) 0 0 29 [.ref 66, .int x0, .int x1] [.int 999, .int 0, .long q1] (N, am_ts T, I2, L3, am_rs r) Q) from ?_)
  refine am_E.go ⟨fun v h9 => v = some (.int (f_241 q1 0 999)) ∧ h9 = (N, am_ts T, I2, L3, am_rs r), s_241 ⟨rfl, rfl⟩, ?_⟩
  intro v h9 hv
  obtain ⟨rfl, rfl⟩ := hv
  refine am_E.run [] 2000 (show (True ∧ Q (some (.int (f_241 q1 0 999))) (N, am_ts T, I2, L3, am_rs r)) from ?_)
  exact ⟨trivial, hK _ _ _ hw⟩
/-- KeyKeepersModel.staysOut(II)Z -/
def w_245 (x0 : Int32) (x1 : Int32) (I : am_I) (L : am_J) (K : Int32 → am_I → am_J → Prop) : Prop :=
  w_243 x0 x1 I L (fun q1 I2 L3 =>
    w_237 2 I2 (fun q4 =>
      w_244 x0 x1 I2 L3 (fun q5 I6 L7 =>
        if (10 * q1) ≤ (q4 * q5) then
          K 0 I6 L7
        else
          K 1 I6 L7)))
set_option maxRecDepth 100000 in
theorem s_245 {S : am_S} {d : Nat} {N : Nat} {T : Nat → Nat × Nat} {I : am_I} {L : am_J} {r : Nat → Nat → Option Nat} {Q : am_Q} {x0 : Int32} {x1 : Int32} {K : Int32 → am_I → am_J → Prop} (hw : w_245 x0 x1 I L K) (hK : ∀ (q : Int32) (I1 : am_I) (L1 : am_J), K q I1 L1 → Q (some (.int q)) (N, am_ts T, I1, L1, am_rs r)) : am_E S 245 (d + 6) 0 0 0 [.ref 66, .int x0, .int x1] [] (N, am_ts T, I, L, am_rs r) Q := by
  unfold w_245 at hw
  try dsimp only at hw
  refine am_E.run [5] 2000 (show (am_E S 245 (d + 6) 0 0 5 [.ref 66, .int x0, .int x1] [.int x1, .int x0, .ref 66, .int 10] (N, am_ts T, I, L, am_rs r) Q) from ?_)
  refine am_E.go ⟨am_ki_IL N T r _, s_243 hw (fun q1 I2 L3 hk => ⟨q1, I2, L3, rfl, rfl, hk⟩), ?_⟩
  intro v h9 hv
  obtain ⟨q1, I2, L3, rfl, rfl, hw⟩ := hv
  try dsimp only at hw
  refine am_E.run [11] 2000 (show (am_E S 245 (d + 6) 0 0 11 [.ref 66, .int x0, .int x1] [.int 2, .ref 66, .int (10 * q1)] (N, am_ts T, I2, L3, am_rs r) Q) from ?_)
  refine am_E.go ⟨am_ki_ N T I2 L3 r _, s_237 hw (fun q4 hk => ⟨q4, rfl, rfl, hk⟩), ?_⟩
  intro v h9 hv
  obtain ⟨q4, rfl, rfl, hw⟩ := hv
  try dsimp only at hw
  refine am_E.run [17] 2000 (show (am_E S 245 (d + 6) 0 0 17 [.ref 66, .int x0, .int x1] [.int x1, .int x0, .ref 66, .int q4, .int (10 * q1)] (N, am_ts T, I2, L3, am_rs r) Q) from ?_)
  refine am_E.go ⟨am_ki_IL N T r _, s_244 hw (fun q5 I6 L7 hk => ⟨q5, I6, L7, rfl, rfl, hk⟩), ?_⟩
  intro v h9 hv
  obtain ⟨q5, I6, L7, rfl, rfl, hw⟩ := hv
  try dsimp only at hw
  refine am_E.run [] 2000 (show (if (10 * q1) ≤ (q4 * q5) then (((0 : Int32) = 0 ∨ (0 : Int32) = 1) ∧ Q (some (.int 0)) (N, am_ts T, I6, L7, am_rs r)) else (((1 : Int32) = 0 ∨ (1 : Int32) = 1) ∧ Q (some (.int 1)) (N, am_ts T, I6, L7, am_rs r))) from ?_)
  by_cases hc : (10 * q1) ≤ (q4 * q5)
  · rw [if_pos hc] at hw ⊢
    exact ⟨Or.inl rfl, hK _ _ _ hw⟩
  · rw [if_neg hc] at hw ⊢
    exact ⟨Or.inr rfl, hK _ _ _ hw⟩
/-- KeyKeepersModel.go(II)I -/
def w_251 (x0 : Int32) (x1 : Int32) (I : am_I) (K : Int32 → am_I → Prop) : Prop :=
  w_252 x0 x1 (am_u I 66 0 0) (fun q1 I2 =>
    w_179 q1 I2 (fun q3 I4 =>
      K q3 I4))
set_option maxRecDepth 100000 in
theorem s_251 {S : am_S} {d : Nat} {N : Nat} {T : Nat → Nat × Nat} {I : am_I} {L : am_J} {r : Nat → Nat → Option Nat} {Q : am_Q} {x0 : Int32} {x1 : Int32} {K : Int32 → am_I → Prop} (hw : w_251 x0 x1 I K) (hK : ∀ (q : Int32) (I1 : am_I), K q I1 → Q (some (.int q)) (N, am_ts T, I1, L, am_rs r)) : am_E S 251 (d + 5) 0 0 0 [.ref 66, .int x0, .int x1] [] (N, am_ts T, I, L, am_rs r) Q := by
  unfold w_251 at hw
  try dsimp only at hw
  refine am_E.run [9] 2000 (show (am_E S 251 (d + 5) 0 0 9 [.ref 66, .int x0, .int x1] [.int x1, .int x0, .ref 66, .ref 66] (N, am_ts T, (am_u I 66 0 0), L, am_rs r) Q) from ?_)
  refine am_E.go ⟨am_ki_I N T L r _, s_252 hw (fun q1 I2 hk => ⟨q1, I2, rfl, rfl, hk⟩), ?_⟩
  intro v h9 hv
  obtain ⟨q1, I2, rfl, rfl, hw⟩ := hv
  try dsimp only at hw
  show (am_E S 251 (d + 5) 0 0 12 [.ref 66, .int x0, .int x1] [.int q1, .ref 66] (N, am_ts T, I2, L, am_rs r) Q)
  refine am_E.go ⟨am_ki_I N T L r _, s_179 hw (fun q3 I4 hk => ⟨q3, I4, rfl, rfl, hk⟩), ?_⟩
  intro v h9 hv
  obtain ⟨q3, I4, rfl, rfl, hw⟩ := hv
  try dsimp only at hw
  refine am_E.run [] 2000 (show (True ∧ Q (some (.int q3)) (N, am_ts T, I4, L, am_rs r)) from ?_)
  exact ⟨trivial, hK _ _ hw⟩
/-- KeyKeepersModel.inspect()I -/
def w_260 (I : am_I) (K : Int32 → am_I → Prop) : Prop :=
  w_261 (am_u I 66 0 0) (fun q1 I2 =>
    w_179 q1 I2 (fun q3 I4 =>
      K q3 I4))
set_option maxRecDepth 100000 in
theorem s_260 {S : am_S} {d : Nat} {N : Nat} {T : Nat → Nat × Nat} {I : am_I} {L : am_J} {r : Nat → Nat → Option Nat} {Q : am_Q} {K : Int32 → am_I → Prop} (hw : w_260 I K) (hK : ∀ (q : Int32) (I1 : am_I), K q I1 → Q (some (.int q)) (N, am_ts T, I1, L, am_rs r)) : am_E S 260 (d + 3) 0 0 0 [.ref 66] [] (N, am_ts T, I, L, am_rs r) Q := by
  unfold w_260 at hw
  try dsimp only at hw
  refine am_E.run [7] 2000 (show (am_E S 260 (d + 3) 0 0 7 [.ref 66] [.ref 66, .ref 66] (N, am_ts T, (am_u I 66 0 0), L, am_rs r) Q) from ?_)
  refine am_E.go ⟨am_ki_I N T L r _, s_261 hw (fun q1 I2 hk => ⟨q1, I2, rfl, rfl, hk⟩), ?_⟩
  intro v h9 hv
  obtain ⟨q1, I2, rfl, rfl, hw⟩ := hv
  try dsimp only at hw
  show (am_E S 260 (d + 3) 0 0 10 [.ref 66] [.int q1, .ref 66] (N, am_ts T, I2, L, am_rs r) Q)
  refine am_E.go ⟨am_ki_I N T L r _, s_179 hw (fun q3 I4 hk => ⟨q3, I4, rfl, rfl, hk⟩), ?_⟩
  intro v h9 hv
  obtain ⟨q3, I4, rfl, rfl, hw⟩ := hv
  try dsimp only at hw
  refine am_E.run [] 2000 (show (True ∧ Q (some (.int q3)) (N, am_ts T, I4, L, am_rs r)) from ?_)
  exact ⟨trivial, hK _ _ hw⟩
def lw_277_41 : Nat → Int32 → Int32 → Int32 → Int32 → Int32 → am_I → am_J → (Int32 → Int32 → Int32 → am_I → am_J → Prop) → Prop
  | 0, _, _, _, _, _, _, _, _ => False
  | n + 1, v1, v2, v3, v4, v5, I, L, E0 =>
    if (I 68 1) ≤ v5 then
      E0 v2 v4 v5 I L
    else
      w_236 v2 (fun q1 =>
        w_245 v5 (q1 - ((v2 >>> (v5 &&& 31)) &&& 1)) I L (fun q2 I3 L4 =>
          if q2 = (f_248 v2 v5) then
            lw_277_41 n v1 v2 v3 v4 (v5 + 1) I3 L4 E0
          else
            if q2 = 0 then
              lw_277_41 n v1 (v2 + (-(1 <<< (v5 &&& 31)))) v3 1 (v5 + 1) I3 L4 E0
            else
              lw_277_41 n v1 (v2 + (1 <<< (v5 &&& 31))) v3 1 (v5 + 1) I3 L4 E0))
set_option maxRecDepth 100000 in
theorem sl_277_41 {S : am_S} {d : Nat} {Q : am_Q} {N : Nat} {T : Nat → Nat × Nat} {r : Nat → Nat → Option Nat} {E0 : Int32 → Int32 → Int32 → am_I → am_J → Prop} : ∀ (n : Nat) {v1 : Int32} {v2 : Int32} {v3 : Int32} {v4 : Int32} {v5 : Int32} {I : am_I} {L : am_J}, lw_277_41 n v1 v2 v3 v4 v5 I L E0 → (∀ (o2 : Int32) (o4 : Int32) (o5 : Int32) (I1 : am_I) (L1 : am_J), E0 o2 o4 o5 I1 L1 → am_E S 277 (d + 7) 0 0 115 [.ref 66, .int v1, .int o2, .int v3, .int o4, .int o5, am_jk, am_jk] [] (N, am_ts T, I1, L1, am_rs r) Q) → am_E S 277 (d + 7) 0 0 41 [.ref 66, .int v1, .int v2, .int v3, .int v4, .int v5, am_jk, am_jk] [] (N, am_ts T, I, L, am_rs r) Q
  | 0, _, _, _, _, _, _, _, hw, _ => hw.elim
  | n + 1, v1, v2, v3, v4, v5, I, L, hw, hE0 => by
    have ih := @sl_277_41 S d Q N T r E0 n
    unfold lw_277_41 at hw
    try dsimp only at hw
    refine am_E.run [53, 115] 2000 (show (if (I 68 1) ≤ v5 then (am_E S 277 (d + 7) 0 0 115 [.ref 66, .int v1, .int v2, .int v3, .int v4, .int v5, am_jk, am_jk] [] (N, am_ts T, I, L, am_rs r) Q) else (am_E S 277 (d + 7) 0 0 53 [.ref 66, .int v1, .int v2, .int v3, .int v4, .int v5, am_jk, am_jk] [.int v2] (N, am_ts T, I, L, am_rs r) Q)) from ?_)
    by_cases hc : (I 68 1) ≤ v5
    · rw [if_pos hc] at hw ⊢
      exact hE0 _ _ _ _ _ hw
    · rw [if_neg hc] at hw ⊢
      refine am_E.go ⟨am_ki_ N T I L r _, s_236 hw (fun q1 hk => ⟨q1, rfl, rfl, hk⟩), ?_⟩
      intro v h9 hv
      obtain ⟨q1, rfl, rfl, hw⟩ := hv
      try dsimp only at hw
      refine am_E.run [70] 2000 (show (am_E S 277 (d + 7) 0 0 70 [.ref 66, .int v1, .int v2, .int v3, .int v4, .int v5, .int (q1 - ((v2 >>> (v5 &&& 31)) &&& 1)), am_jk] [.int (q1 - ((v2 >>> (v5 &&& 31)) &&& 1)), .int v5, .ref 66] (N, am_ts T, I, L, am_rs r) Q) from ?_)
      refine am_E.go ⟨am_ki_IL N T r _, s_245 hw (fun q2 I3 L4 hk => ⟨q2, I3, L4, rfl, rfl, hk⟩), ?_⟩
      intro v h9 hv
      obtain ⟨q2, I3, L4, rfl, rfl, hw⟩ := hv
      try dsimp only at hw
      refine am_E.run [80] 2000 (show (am_E S 277 (d + 7) 0 0 80 [.ref 66, .int v1, .int v2, .int v3, .int v4, .int v5, .int (q1 - ((v2 >>> (v5 &&& 31)) &&& 1)), .int q2] [.int v5, .int v2, .int q2] (N, am_ts T, I3, L4, am_rs r) Q) from ?_)
      refine am_E.go ⟨fun v h9 => v = some (.int (f_248 v2 v5)) ∧ h9 = (N, am_ts T, I3, L4, am_rs r), s_248 ⟨rfl, rfl⟩, ?_⟩
      intro v h9 hv
      obtain ⟨rfl, rfl⟩ := hv
      refine am_E.run [41] 2000 (show (if q2 = (f_248 v2 v5) then (am_E S 277 (d + 7) 0 0 41 [.ref 66, .int v1, .int v2, .int v3, .int v4, .int (v5 + 1), .int (q1 - ((v2 >>> (v5 &&& 31)) &&& 1)), .int q2] [] (N, am_ts T, I3, L4, am_rs r) Q) else (if q2 = 0 then (am_E S 277 (d + 7) 0 0 41 [.ref 66, .int v1, .int (v2 + (-(1 <<< (v5 &&& 31)))), .int v3, .int 1, .int (v5 + 1), .int (q1 - ((v2 >>> (v5 &&& 31)) &&& 1)), .int q2] [] (N, am_ts T, I3, L4, am_rs r) Q) else (am_E S 277 (d + 7) 0 0 41 [.ref 66, .int v1, .int (v2 + (1 <<< (v5 &&& 31))), .int v3, .int 1, .int (v5 + 1), .int (q1 - ((v2 >>> (v5 &&& 31)) &&& 1)), .int q2] [] (N, am_ts T, I3, L4, am_rs r) Q))) from ?_)
      by_cases hc : q2 = (f_248 v2 v5)
      · rw [if_pos hc] at hw ⊢
        exact am_E.junk (ih hw hE0) (am_le.cons (am_le.cons (am_le.cons (am_le.cons (am_le.cons (am_le.cons (am_le.jk (am_le.jk am_le.nil))))))))
      · rw [if_neg hc] at hw ⊢
        by_cases hc : q2 = 0
        · rw [if_pos hc] at hw ⊢
          exact am_E.junk (ih hw hE0) (am_le.cons (am_le.cons (am_le.cons (am_le.cons (am_le.cons (am_le.cons (am_le.jk (am_le.jk am_le.nil))))))))
        · rw [if_neg hc] at hw ⊢
          exact am_E.junk (ih hw hE0) (am_le.cons (am_le.cons (am_le.cons (am_le.cons (am_le.cons (am_le.cons (am_le.jk (am_le.jk am_le.nil))))))))
def lw_277_24 : Nat → Int32 → Int32 → Int32 → Int32 → am_I → am_J → (Int32 → Int32 → Int32 → am_I → am_J → Prop) → Prop
  | 0, _, _, _, _, _, _, _ => False
  | n + 1, v1, v2, v3, v4, I, L, E0 =>
    if v4 = 0 then
      E0 v2 v3 v4 I L
    else
      if (50 : Int32) ≤ v3 then
        E0 v2 v3 v4 I L
      else
        ∃ n41, lw_277_41 n41 v1 v2 v3 0 0 I L (fun o5 o6 o7 I8 L9 =>
          lw_277_24 n v1 o5 (v3 + 1) o6 I8 L9 E0)
set_option maxRecDepth 100000 in
theorem sl_277_24 {S : am_S} {d : Nat} {Q : am_Q} {N : Nat} {T : Nat → Nat × Nat} {r : Nat → Nat → Option Nat} {E0 : Int32 → Int32 → Int32 → am_I → am_J → Prop} : ∀ (n : Nat) {v1 : Int32} {v2 : Int32} {v3 : Int32} {v4 : Int32} {I : am_I} {L : am_J}, lw_277_24 n v1 v2 v3 v4 I L E0 → (∀ (o2 : Int32) (o3 : Int32) (o4 : Int32) (I1 : am_I) (L1 : am_J), E0 o2 o3 o4 I1 L1 → am_E S 277 (d + 7) 0 0 121 [.ref 66, .int v1, .int o2, .int o3, .int o4, am_jk, am_jk, am_jk] [] (N, am_ts T, I1, L1, am_rs r) Q) → am_E S 277 (d + 7) 0 0 24 [.ref 66, .int v1, .int v2, .int v3, .int v4, am_jk, am_jk, am_jk] [] (N, am_ts T, I, L, am_rs r) Q
  | 0, _, _, _, _, _, _, hw, _ => hw.elim
  | n + 1, v1, v2, v3, v4, I, L, hw, hE0 => by
    have ih := @sl_277_24 S d Q N T r E0 n
    unfold lw_277_24 at hw
    try dsimp only at hw
    refine am_E.run [41, 121] 2000 (show (if v4 = 0 then (am_E S 277 (d + 7) 0 0 121 [.ref 66, .int v1, .int v2, .int v3, .int v4, am_jk, am_jk, am_jk] [] (N, am_ts T, I, L, am_rs r) Q) else (if (50 : Int32) ≤ v3 then (am_E S 277 (d + 7) 0 0 121 [.ref 66, .int v1, .int v2, .int v3, .int v4, am_jk, am_jk, am_jk] [] (N, am_ts T, I, L, am_rs r) Q) else (am_E S 277 (d + 7) 0 0 41 [.ref 66, .int v1, .int v2, .int v3, .int 0, .int 0, am_jk, am_jk] [] (N, am_ts T, I, L, am_rs r) Q))) from ?_)
    by_cases hc : v4 = 0
    · rw [if_pos hc] at hw ⊢
      exact hE0 _ _ _ _ _ hw
    · rw [if_neg hc] at hw ⊢
      by_cases hc : (50 : Int32) ≤ v3
      · rw [if_pos hc] at hw ⊢
        exact hE0 _ _ _ _ _ hw
      · rw [if_neg hc] at hw ⊢
        obtain ⟨n41, hw⟩ := hw
        refine sl_277_41 n41 hw (fun o5 o6 o7 I8 L9 hw => ?_)
        · try dsimp only at hw
          refine am_E.run [24] 2000 (show (am_E S 277 (d + 7) 0 0 24 [.ref 66, .int v1, .int o5, .int (v3 + 1), .int o6, .int o7, am_jk, am_jk] [] (N, am_ts T, I8, L9, am_rs r) Q) from ?_)
          exact am_E.junk (ih hw hE0) (am_le.cons (am_le.cons (am_le.cons (am_le.cons (am_le.cons (am_le.jk (am_le.cons (am_le.cons am_le.nil))))))))
/-- KeyKeepersModel.rests(I)I -/
def w_277 (x0 : Int32) (I : am_I) (L : am_J) (K : Int32 → am_I → am_J → Prop) : Prop :=
  if (f_182 (Int32.toInt64 x0) 0 1) = 0 then
    K (-1) (am_u I 66 0 0) L
  else
    ∃ n24, lw_277_24 n24 x0 0 0 1 (am_u I 66 0 0) L (fun o10 o11 o12 I13 L14 =>
      if o12 = 0 then
        if x0 = 0 then
          K o10 I13 L14
        else
          K o11 I13 L14
      else
        K (-1) I13 L14)
set_option maxRecDepth 100000 in
theorem s_277 {S : am_S} {d : Nat} {N : Nat} {T : Nat → Nat × Nat} {I : am_I} {L : am_J} {r : Nat → Nat → Option Nat} {Q : am_Q} {x0 : Int32} {K : Int32 → am_I → am_J → Prop} (hw : w_277 x0 I L K) (hK : ∀ (q : Int32) (I1 : am_I) (L1 : am_J), K q I1 L1 → Q (some (.int q)) (N, am_ts T, I1, L1, am_rs r)) : am_E S 277 (d + 7) 0 0 0 [.ref 66, .int x0, am_jk, am_jk, am_jk, am_jk, am_jk, am_jk] [] (N, am_ts T, I, L, am_rs r) Q := by
  unfold w_277 at hw
  try dsimp only at hw
  refine am_E.run [9] 2000 (show (am_E S 277 (d + 7) 0 0 9 [.ref 66, .int x0, am_jk, am_jk, am_jk, am_jk, am_jk, am_jk] [.long 1, .long 0, .long (Int32.toInt64 x0)] (N, am_ts T, (am_u I 66 0 0), L, am_rs r) Q) from ?_)
  refine am_E.go ⟨fun v h9 => v = some (.int (f_182 (Int32.toInt64 x0) 0 1)) ∧ h9 = (N, am_ts T, (am_u I 66 0 0), L, am_rs r), s_182 ⟨rfl, rfl⟩, ?_⟩
  intro v h9 hv
  obtain ⟨rfl, rfl⟩ := hv
  refine am_E.run [24] 2000 (show (if (f_182 (Int32.toInt64 x0) 0 1) = 0 then (True ∧ Q (some (.int (-1))) (N, am_ts T, (am_u I 66 0 0), L, am_rs r)) else (am_E S 277 (d + 7) 0 0 24 [.ref 66, .int x0, .int 0, .int 0, .int 1, am_jk, am_jk, am_jk] [] (N, am_ts T, (am_u I 66 0 0), L, am_rs r) Q)) from ?_)
  by_cases hc : (f_182 (Int32.toInt64 x0) 0 1) = 0
  · rw [if_pos hc] at hw ⊢
    exact ⟨trivial, hK _ _ _ hw⟩
  · rw [if_neg hc] at hw ⊢
    obtain ⟨n24, hw⟩ := hw
    refine sl_277_24 n24 hw (fun o10 o11 o12 I13 L14 hw => ?_)
    · try dsimp only at hw
      refine am_E.run [] 2000 (show (if o12 = 0 then (if x0 = 0 then (True ∧ Q (some (.int o10)) (N, am_ts T, I13, L14, am_rs r)) else (True ∧ Q (some (.int o11)) (N, am_ts T, I13, L14, am_rs r))) else (True ∧ Q (some (.int (-1))) (N, am_ts T, I13, L14, am_rs r))) from ?_)
      by_cases hc : o12 = 0
      · rw [if_pos hc] at hw ⊢
        by_cases hc : x0 = 0
        · rw [if_pos hc] at hw ⊢
          exact ⟨trivial, hK _ _ _ hw⟩
        · rw [if_neg hc] at hw ⊢
          exact ⟨trivial, hK _ _ _ hw⟩
      · rw [if_neg hc] at hw ⊢
        exact ⟨trivial, hK _ _ _ hw⟩
def lw_45_8 : Nat → Int32 → Int32 → Int32 → Int32 → Int32 → am_I → (Int32 → Int32 → Int32 → Prop) → (Int32 → Prop) → Prop
  | 0, _, _, _, _, _, _, _, _ => False
  | n + 1, v1, v2, v3, v4, v5, I, E0, R =>
    w_46 (fun q1 =>
      if q1 ≤ v5 then
        E0 v3 v4 v5
      else
        w_48 v5 (fun q2 =>
          if q2 = 32 then
            if (v5 - v4) = (v2 - v1) then
              w_53 v1 v4 (v5 - v4) I (fun q3 =>
                if q3 = 0 then
                  lw_45_8 n v1 v2 (v3 + 1) (v5 + 1) (v5 + 1) I E0 R
                else
                  R v3)
            else
              lw_45_8 n v1 v2 (v3 + 1) (v5 + 1) (v5 + 1) I E0 R
          else
            lw_45_8 n v1 v2 v3 v4 (v5 + 1) I E0 R))
set_option maxRecDepth 100000 in
theorem sl_45_8 {S : am_S} {d : Nat} {Q : am_Q} {N : Nat} {T : Nat → Nat × Nat} {I : am_I} {L : am_J} {r : Nat → Nat → Option Nat} {E0 : Int32 → Int32 → Int32 → Prop} {R : Int32 → Prop} : ∀ (n : Nat) {v1 : Int32} {v2 : Int32} {v3 : Int32} {v4 : Int32} {v5 : Int32}, lw_45_8 n v1 v2 v3 v4 v5 I E0 R → (∀ (o3 : Int32) (o4 : Int32) (o5 : Int32), E0 o3 o4 o5 → am_E S 45 (d + 5) 0 0 73 [.ref 14, .int v1, .int v2, .int o3, .int o4, .int o5] [] (N, am_ts T, I, L, am_rs r) Q) → (∀ (q : Int32), R q → Q (some (.int q)) (N, am_ts T, I, L, am_rs r)) → am_E S 45 (d + 5) 0 0 8 [.ref 14, .int v1, .int v2, .int v3, .int v4, .int v5] [] (N, am_ts T, I, L, am_rs r) Q
  | 0, _, _, _, _, _, hw, _, _ => hw.elim
  | n + 1, v1, v2, v3, v4, v5, hw, hE0, hR => by
    have ih := @sl_45_8 S d Q N T I L r E0 R n
    unfold lw_45_8 at hw
    try dsimp only at hw
    refine am_E.run [12] 2000 (show (am_E S 45 (d + 5) 0 0 12 [.ref 14, .int v1, .int v2, .int v3, .int v4, .int v5] [.retAddr 2, .int v5] (N, am_ts T, I, L, am_rs r) Q) from ?_)
    refine am_E.go ⟨am_ki_ N T I L r _, s_46 hw (fun q1 hk => ⟨q1, rfl, rfl, hk⟩), ?_⟩
    intro v h9 hv
    obtain ⟨q1, rfl, rfl, hw⟩ := hv
    try dsimp only at hw
    refine am_E.run [22, 73] 2000 (show (if q1 ≤ v5 then (am_E S 45 (d + 5) 0 0 73 [.ref 14, .int v1, .int v2, .int v3, .int v4, .int v5] [] (N, am_ts T, I, L, am_rs r) Q) else (am_E S 45 (d + 5) 0 0 22 [.ref 14, .int v1, .int v2, .int v3, .int v4, .int v5] [.int v5, .retAddr 2] (N, am_ts T, I, L, am_rs r) Q)) from ?_)
    by_cases hc : q1 ≤ v5
    · rw [if_pos hc] at hw ⊢
      exact hE0 _ _ _ hw
    · rw [if_neg hc] at hw ⊢
      refine am_E.go ⟨am_ki_ N T I L r _, s_48 hw (fun q2 hk => ⟨q2, rfl, rfl, hk⟩), ?_⟩
      intro v h9 hv
      obtain ⟨q2, rfl, rfl, hw⟩ := hv
      try dsimp only at hw
      refine am_E.run [8, 50] 2000 (show (if q2 = 32 then (if (v5 - v4) = (v2 - v1) then (am_E S 45 (d + 5) 0 0 50 [.ref 14, .int v1, .int v2, .int v3, .int v4, .int v5] [.int (v5 - v4), .int v4, .int v1, .ref 14] (N, am_ts T, I, L, am_rs r) Q) else (am_E S 45 (d + 5) 0 0 8 [.ref 14, .int v1, .int v2, .int (v3 + 1), .int (v5 + 1), .int (v5 + 1)] [] (N, am_ts T, I, L, am_rs r) Q)) else (am_E S 45 (d + 5) 0 0 8 [.ref 14, .int v1, .int v2, .int v3, .int v4, .int (v5 + 1)] [] (N, am_ts T, I, L, am_rs r) Q)) from ?_)
      by_cases hc : q2 = 32
      · rw [if_pos hc] at hw ⊢
        by_cases hc : (v5 - v4) = (v2 - v1)
        · rw [if_pos hc] at hw ⊢
          refine am_E.go ⟨am_ki_ N T I L r _, s_53 hw (fun q3 hk => ⟨q3, rfl, rfl, hk⟩), ?_⟩
          intro v h9 hv
          obtain ⟨q3, rfl, rfl, hw⟩ := hv
          try dsimp only at hw
          refine am_E.run [8] 2000 (show (if q3 = 0 then (am_E S 45 (d + 5) 0 0 8 [.ref 14, .int v1, .int v2, .int (v3 + 1), .int (v5 + 1), .int (v5 + 1)] [] (N, am_ts T, I, L, am_rs r) Q) else (True ∧ Q (some (.int v3)) (N, am_ts T, I, L, am_rs r))) from ?_)
          by_cases hc : q3 = 0
          · rw [if_pos hc] at hw ⊢
            exact ih hw hE0 hR
          · rw [if_neg hc] at hw ⊢
            exact ⟨trivial, hR _ hw⟩
        · rw [if_neg hc] at hw ⊢
          exact ih hw hE0 hR
      · rw [if_neg hc] at hw ⊢
        exact ih hw hE0 hR
/-- KeyKeepers$Reader.wordOf(II)I -/
def w_45 (x0 : Int32) (x1 : Int32) (I : am_I) (K : Int32 → Prop) : Prop :=
  ∃ n8, lw_45_8 n8 x0 x1 0 0 0 I (fun o4 o5 o6 =>
    K o4) K
set_option maxRecDepth 100000 in
theorem s_45 {S : am_S} {d : Nat} {N : Nat} {T : Nat → Nat × Nat} {I : am_I} {L : am_J} {r : Nat → Nat → Option Nat} {Q : am_Q} {x0 : Int32} {x1 : Int32} {K : Int32 → Prop} (hw : w_45 x0 x1 I K) (hK : ∀ (q : Int32), K q → Q (some (.int q)) (N, am_ts T, I, L, am_rs r)) : am_E S 45 (d + 5) 0 0 0 [.ref 14, .int x0, .int x1, am_jk, am_jk, am_jk] [] (N, am_ts T, I, L, am_rs r) Q := by
  unfold w_45 at hw
  try dsimp only at hw
  refine am_E.run [8] 2000 (show (am_E S 45 (d + 5) 0 0 8 [.ref 14, .int x0, .int x1, .int 0, .int 0, .int 0] [] (N, am_ts T, I, L, am_rs r) Q) from ?_)
  obtain ⟨n8, hw⟩ := hw
  refine sl_45_8 n8 hw (fun o4 o5 o6 hw => ?_) hK
  · try dsimp only at hw
    refine am_E.run [] 2000 (show (True ∧ Q (some (.int o4)) (N, am_ts T, I, L, am_rs r)) from ?_)
    exact ⟨trivial, hK _ hw⟩
def lw_82_11 : Nat → Int32 → Int32 → Int32 → (Nat → Nat × Nat) → (Nat → Nat → Option Nat) → am_I → (Int32 → am_I → Prop) → (Int32 → am_I → Prop) → Prop
  | 0, _, _, _, _, _, _, _, _ => False
  | n + 1, v4, v6, v7, T, r, I, E0, R =>
    w_84 16 v4 T r I (fun q2 =>
      if q2 ≤ v7 then
        E0 v7 I
      else
        w_85 T r I (fun I3 =>
          w_87 16 v4 3 T r I3 (fun q4 I5 =>
            if q4 = 0 then
              lw_82_11 n v4 v6 (v7 + 1) T r I5 E0 R
            else
              if (I5 24 1) = 1 then
                w_92 v4 T r I5 (fun q6 I7 =>
                  if q6 = 0 then
                    R 0 I7
                  else
                    w_93 v6 T r I7 (fun q8 I9 =>
                      if q8 = 0 then
                        R 0 I9
                      else
                        lw_82_11 n v4 v6 (v7 + 1) T r (am_u I9 35 0 ((I9 35 0) + 1)) E0 R))
              else
                lw_82_11 n v4 v6 (v7 + 1) T r I5 E0 R)))
set_option maxRecDepth 100000 in
theorem sl_82_11 {S : am_S} {d : Nat} {Q : am_Q} {N : Nat} {T : Nat → Nat × Nat} {L : am_J} {r : Nat → Nat → Option Nat} {E0 : Int32 → am_I → Prop} {R : Int32 → am_I → Prop} : ∀ (n : Nat) {v4 : Int32} {v6 : Int32} {v7 : Int32} {I : am_I}, lw_82_11 n v4 v6 v7 T r I E0 R → (∀ (o7 : Int32) (I1 : am_I), E0 o7 I1 → am_E S 82 (d + 5) 0 0 93 [.ref 35, .ref 1, .ref 29, .ref 16, .int v4, .ref 24, .int v6, .int o7] [] (N, am_ts T, I1, L, am_rs r) Q) → (∀ (q : Int32) (I1 : am_I), R q I1 → Q (some (.int q)) (N, am_ts T, I1, L, am_rs r)) → am_E S 82 (d + 5) 0 0 11 [.ref 35, .ref 1, .ref 29, .ref 16, .int v4, .ref 24, .int v6, .int v7] [] (N, am_ts T, I, L, am_rs r) Q
  | 0, _, _, _, _, hw, _, _ => hw.elim
  | n + 1, v4, v6, v7, I, hw, hE0, hR => by
    have ih := @sl_82_11 S d Q N T L r E0 R n
    unfold lw_82_11 at hw
    try dsimp only at hw
    refine am_E.run [16] 2000 (show (am_E S 82 (d + 5) 0 0 16 [.ref 35, .ref 1, .ref 29, .ref 16, .int v4, .ref 24, .int v6, .int v7] [.int v4, .ref 16, .int v7] (N, am_ts T, I, L, am_rs r) Q) from ?_)
    refine am_E.go ⟨am_ki_ N T I L r _, s_84 hw (fun q2 hk => ⟨q2, rfl, rfl, hk⟩), ?_⟩
    intro v h9 hv
    obtain ⟨q2, rfl, rfl, hw⟩ := hv
    try dsimp only at hw
    refine am_E.run [26, 93] 2000 (show (if q2 ≤ v7 then (am_E S 82 (d + 5) 0 0 93 [.ref 35, .ref 1, .ref 29, .ref 16, .int v4, .ref 24, .int v6, .int v7] [] (N, am_ts T, I, L, am_rs r) Q) else (am_E S 82 (d + 5) 0 0 26 [.ref 35, .ref 1, .ref 29, .ref 16, .int v4, .ref 24, .int v6, .int v7] [.ref 24, .ref 1, .ref 35] (N, am_ts T, I, L, am_rs r) Q)) from ?_)
    by_cases hc : q2 ≤ v7
    · rw [if_pos hc] at hw ⊢
      exact hE0 _ _ hw
    · rw [if_neg hc] at hw ⊢
      refine am_E.go ⟨am_kv_I N T L r _, s_85 hw (fun I3 hk => ⟨I3, rfl, rfl, hk⟩), ?_⟩
      intro v h9 hv
      obtain ⟨I3, rfl, rfl, hw⟩ := hv
      try dsimp only at hw
      refine am_E.run [36] 2000 (show (am_E S 82 (d + 5) 0 0 36 [.ref 35, .ref 1, .ref 29, .ref 16, .int v4, .ref 24, .int v6, .int v7] [.int 3, .int v4, .ref 16, .ref 1, .ref 24] (N, am_ts T, I3, L, am_rs r) Q) from ?_)
      refine am_E.go ⟨am_ki_I N T L r _, s_87 hw (fun q4 I5 hk => ⟨q4, I5, rfl, rfl, hk⟩), ?_⟩
      intro v h9 hv
      obtain ⟨q4, I5, rfl, rfl, hw⟩ := hv
      try dsimp only at hw
      refine am_E.run [11, 58] 2000 (show (if q4 = 0 then (am_E S 82 (d + 5) 0 0 11 [.ref 35, .ref 1, .ref 29, .ref 16, .int v4, .ref 24, .int v6, .int (v7 + 1)] [] (N, am_ts T, I5, L, am_rs r) Q) else (if (I5 24 1) = 1 then (am_E S 82 (d + 5) 0 0 58 [.ref 35, .ref 1, .ref 29, .ref 16, .int v4, .ref 24, .int v6, .int v7] [.ref 24, .int v4, .ref 16, .ref 1, .ref 35] (N, am_ts T, I5, L, am_rs r) Q) else (am_E S 82 (d + 5) 0 0 11 [.ref 35, .ref 1, .ref 29, .ref 16, .int v4, .ref 24, .int v6, .int (v7 + 1)] [] (N, am_ts T, I5, L, am_rs r) Q))) from ?_)
      by_cases hc : q4 = 0
      · rw [if_pos hc] at hw ⊢
        exact ih hw hE0 hR
      · rw [if_neg hc] at hw ⊢
        by_cases hc : (I5 24 1) = 1
        · rw [if_pos hc] at hw ⊢
          refine am_E.go ⟨am_ki_I N T L r _, s_92 hw (fun q6 I7 hk => ⟨q6, I7, rfl, rfl, hk⟩), ?_⟩
          intro v h9 hv
          obtain ⟨q6, I7, rfl, rfl, hw⟩ := hv
          try dsimp only at hw
          refine am_E.run [69] 2000 (show (if q6 = 0 then (((0 : Int32) = 0 ∨ (0 : Int32) = 1) ∧ Q (some (.int 0)) (N, am_ts T, I7, L, am_rs r)) else (am_E S 82 (d + 5) 0 0 69 [.ref 35, .ref 1, .ref 29, .ref 16, .int v4, .ref 24, .int v6, .int v7] [.int v6, .ref 29, .ref 1, .ref 35] (N, am_ts T, I7, L, am_rs r) Q)) from ?_)
          by_cases hc : q6 = 0
          · rw [if_pos hc] at hw ⊢
            exact ⟨Or.inl rfl, hR _ _ hw⟩
          · rw [if_neg hc] at hw ⊢
            refine am_E.go ⟨am_ki_I N T L r _, s_93 hw (fun q8 I9 hk => ⟨q8, I9, rfl, rfl, hk⟩), ?_⟩
            intro v h9 hv
            obtain ⟨q8, I9, rfl, rfl, hw⟩ := hv
            try dsimp only at hw
            refine am_E.run [11] 2000 (show (if q8 = 0 then (((0 : Int32) = 0 ∨ (0 : Int32) = 1) ∧ Q (some (.int 0)) (N, am_ts T, I9, L, am_rs r)) else (am_E S 82 (d + 5) 0 0 11 [.ref 35, .ref 1, .ref 29, .ref 16, .int v4, .ref 24, .int v6, .int (v7 + 1)] [] (N, am_ts T, (am_u I9 35 0 ((I9 35 0) + 1)), L, am_rs r) Q)) from ?_)
            by_cases hc : q8 = 0
            · rw [if_pos hc] at hw ⊢
              exact ⟨Or.inl rfl, hR _ _ hw⟩
            · rw [if_neg hc] at hw ⊢
              exact ih hw hE0 hR
        · rw [if_neg hc] at hw ⊢
          exact ih hw hE0 hR
/-- KeyKeepers$Sergeant.obeysClause(LKeyKeepers$Prison;LKeyKeepers$Goings;LKeyKeepers$Text;ILKeyKeepers$Machine;)Z -/
def w_82 (x3 : Int32) (T : Nat → Nat × Nat) (r : Nat → Nat → Option Nat) (I : am_I) (K : Int32 → am_I → Prop) : Prop :=
  w_83 16 x3 T r I (fun q1 =>
    ∃ n11, lw_82_11 n11 x3 q1 0 T r I (fun o10 I11 =>
      K 1 I11) K)
set_option maxRecDepth 100000 in
theorem s_82 {S : am_S} {d : Nat} {N : Nat} {T : Nat → Nat × Nat} {I : am_I} {L : am_J} {r : Nat → Nat → Option Nat} {Q : am_Q} {x3 : Int32} {K : Int32 → am_I → Prop} (hw : w_82 x3 T r I K) (hK : ∀ (q : Int32) (I1 : am_I), K q I1 → Q (some (.int q)) (N, am_ts T, I1, L, am_rs r)) : am_E S 82 (d + 5) 0 0 0 [.ref 35, .ref 1, .ref 29, .ref 16, .int x3, .ref 24, am_jk, am_jk] [] (N, am_ts T, I, L, am_rs r) Q := by
  unfold w_82 at hw
  try dsimp only at hw
  refine am_E.run [3] 2000 (show (am_E S 82 (d + 5) 0 0 3 [.ref 35, .ref 1, .ref 29, .ref 16, .int x3, .ref 24, am_jk, am_jk] [.int x3, .ref 16] (N, am_ts T, I, L, am_rs r) Q) from ?_)
  refine am_E.go ⟨am_ki_ N T I L r _, s_83 hw (fun q1 hk => ⟨q1, rfl, rfl, hk⟩), ?_⟩
  intro v h9 hv
  obtain ⟨q1, rfl, rfl, hw⟩ := hv
  try dsimp only at hw
  refine am_E.run [11] 2000 (show (am_E S 82 (d + 5) 0 0 11 [.ref 35, .ref 1, .ref 29, .ref 16, .int x3, .ref 24, .int q1, .int 0] [] (N, am_ts T, I, L, am_rs r) Q) from ?_)
  obtain ⟨n11, hw⟩ := hw
  refine sl_82_11 n11 hw (fun o10 I11 hw => ?_) hK
  · try dsimp only at hw
    refine am_E.run [] 2000 (show (((1 : Int32) = 0 ∨ (1 : Int32) = 1) ∧ Q (some (.int 1)) (N, am_ts T, I11, L, am_rs r)) from ?_)
    exact ⟨Or.inr rfl, hK _ _ hw⟩
def wb_135_57 (v1 : Int32) (N : Nat) (T : Nat → Nat × Nat) (r : Nat → Nat → Option Nat) (I : am_I) (L : am_J) (K : Int32 → Nat → (Nat → Nat × Nat) → (Nat → Nat → Option Nat) → am_I → am_J → Prop) : Prop :=
  if v1 = 1 then
    ((am_rs r 0 9) = none →
      False) ∧ ∀ t9, (am_rs r 0 9) = some t9 →
      ((am_ts T t9).1 = 9) ∧
      K (I t9 1) N T r I L
  else
    ((am_rs r 0 9) = none →
      False) ∧ ∀ t5, (am_rs r 0 9) = some t5 →
      ((am_ts T t5).1 = 9) ∧
      if (I t5 1) = 0 then
        K (-1) N T r I L
      else
        if v1 = 0 then
          ((am_rs r 0 9) = none →
            False) ∧ ∀ t8, (am_rs r 0 9) = some t8 →
            ((am_ts T t8).1 = 9) ∧
            K (I t8 0) N T r I L
        else
          ((am_rs r 0 9) = none →
            False) ∧ ∀ t6, (am_rs r 0 9) = some t6 →
            (am_ts T t6).1 = 9 ∧ ∃ c7, (am_rs r t6 2) = some c7 ∧
            ((am_ts T c7).1 = 20) ∧
            ¬ ((v1 - 2) < 0 ∨ (am_ts T c7).2 ≤ Int32.toNatClampNeg (v1 - 2)) ∧
            K (I c7 (Int32.toNatClampNeg (v1 - 2))) N T r I L
set_option maxHeartbeats 6000000 in
set_option maxRecDepth 100000 in
theorem sb_135_57 {S : am_S} {d : Nat} {N : Nat} {T : Nat → Nat × Nat} {I : am_I} {L : am_J} {r : Nat → Nat → Option Nat} {Q : am_Q} {v1 : Int32} {K : Int32 → Nat → (Nat → Nat × Nat) → (Nat → Nat → Option Nat) → am_I → am_J → Prop} (hw : wb_135_57 v1 N T r I L K) (hK : ∀ (q : Int32) (N1 : Nat) (T1 : Nat → Nat × Nat) (r1 : Nat → Nat → Option Nat) (I1 : am_I) (L1 : am_J), K q N1 T1 r1 I1 L1 → Q (some (.int q)) (N1, am_ts T1, I1, L1, am_rs r1)) : am_E S 135 (d + 6) 10 11333 57 [.ref 0, .int v1] [] (N, am_ts T, I, L, am_rs r) Q := by
  unfold wb_135_57 at hw
  try dsimp only at hw
  refine am_E.run [66, 74] 2000 (show (if v1 = 1 then (am_E S 135 (d + 6) 10 11333 66 [.ref 0, .int v1] [am_rv (am_rs r 0 9)] (N, am_ts T, I, L, am_rs r) Q) else (am_E S 135 (d + 6) 10 11333 74 [.ref 0, .int v1] [am_rv (am_rs r 0 9)] (N, am_ts T, I, L, am_rs r) Q)) from ?_)
  by_cases hc : v1 = 1
  · rw [if_pos hc] at hw ⊢
    cases hx : (am_rs r 0 9) with
    | none =>
      replace hw := hw.1 hx
      show (am_E S 135 (d + 6) 10 11333 66 [.ref 0, .int v1] [.null] (N, am_ts T, I, L, am_rs r) Q)
      exact hw.elim
    | some t9 =>
      replace hw := hw.2 t9 hx
      refine am_E.run [] 2000 (show (if (am_ts T t9).1 = 9 ∧ 0 < 4 then (True ∧ Q (some (.int (I t9 1))) (N, am_ts T, I, L, am_rs r)) else False) from ?_)
      refine am_ifp ⟨hw.1, by decide⟩ ?_
      replace hw := hw.2
      exact ⟨trivial, hK _ _ _ _ _ _ hw⟩
  · rw [if_neg hc] at hw ⊢
    cases hx : (am_rs r 0 9) with
    | none =>
      replace hw := hw.1 hx
      show (am_E S 135 (d + 6) 10 11333 74 [.ref 0, .int v1] [.null] (N, am_ts T, I, L, am_rs r) Q)
      exact hw.elim
    | some t5 =>
      replace hw := hw.2 t5 hx
      refine am_E.run [90, 100] 2000 (show (if (am_ts T t5).1 = 9 ∧ 0 < 4 then (if (I t5 1) = 0 then (True ∧ Q (some (.int (-1))) (N, am_ts T, I, L, am_rs r)) else (if v1 = 0 then (am_E S 135 (d + 6) 10 11333 90 [.ref 0, .int v1] [am_rv (am_rs r 0 9)] (N, am_ts T, I, L, am_rs r) Q) else (am_E S 135 (d + 6) 10 11333 100 [.ref 0, .int v1] [am_rv (am_rs r 0 9)] (N, am_ts T, I, L, am_rs r) Q))) else False) from ?_)
      refine am_ifp ⟨hw.1, by decide⟩ ?_
      replace hw := hw.2
      by_cases hc : (I t5 1) = 0
      · rw [if_pos hc] at hw ⊢
        exact ⟨trivial, hK _ _ _ _ _ _ hw⟩
      · rw [if_neg hc] at hw ⊢
        by_cases hc : v1 = 0
        · rw [if_pos hc] at hw ⊢
          cases hx : (am_rs r 0 9) with
          | none =>
            replace hw := hw.1 hx
            show (am_E S 135 (d + 6) 10 11333 90 [.ref 0, .int v1] [.null] (N, am_ts T, I, L, am_rs r) Q)
            exact hw.elim
          | some t8 =>
            replace hw := hw.2 t8 hx
            refine am_E.run [] 2000 (show (if (am_ts T t8).1 = 9 ∧ 0 < 4 then (True ∧ Q (some (.int (I t8 0))) (N, am_ts T, I, L, am_rs r)) else False) from ?_)
            refine am_ifp ⟨hw.1, by decide⟩ ?_
            replace hw := hw.2
            exact ⟨trivial, hK _ _ _ _ _ _ hw⟩
        · rw [if_neg hc] at hw ⊢
          cases hx : (am_rs r 0 9) with
          | none =>
            replace hw := hw.1 hx
            show (am_E S 135 (d + 6) 10 11333 100 [.ref 0, .int v1] [.null] (N, am_ts T, I, L, am_rs r) Q)
            exact hw.elim
          | some t6 =>
            replace hw := hw.2 t6 hx
            refine am_E.run [103] 2000 (show (if (am_ts T t6).1 = 9 ∧ 2 < 4 then (am_E S 135 (d + 6) 10 11333 103 [.ref 0, .int v1] [am_rv (am_rs r t6 2)] (N, am_ts T, I, L, am_rs r) Q) else False) from ?_)
            refine am_ifp ⟨hw.1, by decide⟩ ?_
            replace hw := hw.2
            obtain ⟨c7, hx, hw⟩ := hw
            rw [hx]
            refine am_E.run [] 2000 (show (if (am_ts T c7).1 = 20 then (if (v1 - 2) < 0 ∨ (am_ts T c7).2 ≤ Int32.toNatClampNeg (v1 - 2) then False else (True ∧ Q (some (.int (I c7 (Int32.toNatClampNeg (v1 - 2))))) (N, am_ts T, I, L, am_rs r))) else False) from ?_)
            refine am_ifp hw.1 ?_
            replace hw := hw.2
            refine am_ifn hw.1 ?_
            replace hw := hw.2
            exact ⟨trivial, hK _ _ _ _ _ _ hw⟩
def wb_135_57b (v1 : Int32) (N : Nat) (T : Nat → Nat × Nat) (r : Nat → Nat → Option Nat) (I : am_I) (L : am_J) (K : Int32 → Nat → (Nat → Nat × Nat) → (Nat → Nat → Option Nat) → am_I → am_J → Prop) : Prop :=
  if v1 = 1 then
    ((am_rs r 0 9) = none →
      False) ∧ ∀ t16, (am_rs r 0 9) = some t16 →
      ((am_ts T t16).1 = 9) ∧
      K (I t16 1) N T r I L
  else
    ((am_rs r 0 9) = none →
      False) ∧ ∀ t12, (am_rs r 0 9) = some t12 →
      ((am_ts T t12).1 = 9) ∧
      if (I t12 1) = 0 then
        K (-1) N T r I L
      else
        if v1 = 0 then
          ((am_rs r 0 9) = none →
            False) ∧ ∀ t15, (am_rs r 0 9) = some t15 →
            ((am_ts T t15).1 = 9) ∧
            K (I t15 0) N T r I L
        else
          ((am_rs r 0 9) = none →
            False) ∧ ∀ t13, (am_rs r 0 9) = some t13 →
            (am_ts T t13).1 = 9 ∧ ∃ c14, (am_rs r t13 2) = some c14 ∧
            ((am_ts T c14).1 = 20) ∧
            ¬ ((v1 - 2) < 0 ∨ (am_ts T c14).2 ≤ Int32.toNatClampNeg (v1 - 2)) ∧
            K (I c14 (Int32.toNatClampNeg (v1 - 2))) N T r I L
set_option maxHeartbeats 6000000 in
set_option maxRecDepth 100000 in
theorem sb_135_57b {S : am_S} {d : Nat} {N : Nat} {T : Nat → Nat × Nat} {I : am_I} {L : am_J} {r : Nat → Nat → Option Nat} {Q : am_Q} {v1 : Int32} {K : Int32 → Nat → (Nat → Nat × Nat) → (Nat → Nat → Option Nat) → am_I → am_J → Prop} (hw : wb_135_57b v1 N T r I L K) (hK : ∀ (q : Int32) (N1 : Nat) (T1 : Nat → Nat × Nat) (r1 : Nat → Nat → Option Nat) (I1 : am_I) (L1 : am_J), K q N1 T1 r1 I1 L1 → Q (some (.int q)) (N1, am_ts T1, I1, L1, am_rs r1)) : am_E S 135 (d + 6) 0 0 57 [.ref 0, .int v1] [] (N, am_ts T, I, L, am_rs r) Q := by
  unfold wb_135_57b at hw
  try dsimp only at hw
  refine am_E.run [66, 74] 2000 (show (if v1 = 1 then (am_E S 135 (d + 6) 0 0 66 [.ref 0, .int v1] [am_rv (am_rs r 0 9)] (N, am_ts T, I, L, am_rs r) Q) else (am_E S 135 (d + 6) 0 0 74 [.ref 0, .int v1] [am_rv (am_rs r 0 9)] (N, am_ts T, I, L, am_rs r) Q)) from ?_)
  by_cases hc : v1 = 1
  · rw [if_pos hc] at hw ⊢
    cases hx : (am_rs r 0 9) with
    | none =>
      replace hw := hw.1 hx
      show (am_E S 135 (d + 6) 0 0 66 [.ref 0, .int v1] [.null] (N, am_ts T, I, L, am_rs r) Q)
      exact hw.elim
    | some t16 =>
      replace hw := hw.2 t16 hx
      refine am_E.run [] 2000 (show (if (am_ts T t16).1 = 9 ∧ 0 < 4 then (True ∧ Q (some (.int (I t16 1))) (N, am_ts T, I, L, am_rs r)) else False) from ?_)
      refine am_ifp ⟨hw.1, by decide⟩ ?_
      replace hw := hw.2
      exact ⟨trivial, hK _ _ _ _ _ _ hw⟩
  · rw [if_neg hc] at hw ⊢
    cases hx : (am_rs r 0 9) with
    | none =>
      replace hw := hw.1 hx
      show (am_E S 135 (d + 6) 0 0 74 [.ref 0, .int v1] [.null] (N, am_ts T, I, L, am_rs r) Q)
      exact hw.elim
    | some t12 =>
      replace hw := hw.2 t12 hx
      refine am_E.run [90, 100] 2000 (show (if (am_ts T t12).1 = 9 ∧ 0 < 4 then (if (I t12 1) = 0 then (True ∧ Q (some (.int (-1))) (N, am_ts T, I, L, am_rs r)) else (if v1 = 0 then (am_E S 135 (d + 6) 0 0 90 [.ref 0, .int v1] [am_rv (am_rs r 0 9)] (N, am_ts T, I, L, am_rs r) Q) else (am_E S 135 (d + 6) 0 0 100 [.ref 0, .int v1] [am_rv (am_rs r 0 9)] (N, am_ts T, I, L, am_rs r) Q))) else False) from ?_)
      refine am_ifp ⟨hw.1, by decide⟩ ?_
      replace hw := hw.2
      by_cases hc : (I t12 1) = 0
      · rw [if_pos hc] at hw ⊢
        exact ⟨trivial, hK _ _ _ _ _ _ hw⟩
      · rw [if_neg hc] at hw ⊢
        by_cases hc : v1 = 0
        · rw [if_pos hc] at hw ⊢
          cases hx : (am_rs r 0 9) with
          | none =>
            replace hw := hw.1 hx
            show (am_E S 135 (d + 6) 0 0 90 [.ref 0, .int v1] [.null] (N, am_ts T, I, L, am_rs r) Q)
            exact hw.elim
          | some t15 =>
            replace hw := hw.2 t15 hx
            refine am_E.run [] 2000 (show (if (am_ts T t15).1 = 9 ∧ 0 < 4 then (True ∧ Q (some (.int (I t15 0))) (N, am_ts T, I, L, am_rs r)) else False) from ?_)
            refine am_ifp ⟨hw.1, by decide⟩ ?_
            replace hw := hw.2
            exact ⟨trivial, hK _ _ _ _ _ _ hw⟩
        · rw [if_neg hc] at hw ⊢
          cases hx : (am_rs r 0 9) with
          | none =>
            replace hw := hw.1 hx
            show (am_E S 135 (d + 6) 0 0 100 [.ref 0, .int v1] [.null] (N, am_ts T, I, L, am_rs r) Q)
            exact hw.elim
          | some t13 =>
            replace hw := hw.2 t13 hx
            refine am_E.run [103] 2000 (show (if (am_ts T t13).1 = 9 ∧ 2 < 4 then (am_E S 135 (d + 6) 0 0 103 [.ref 0, .int v1] [am_rv (am_rs r t13 2)] (N, am_ts T, I, L, am_rs r) Q) else False) from ?_)
            refine am_ifp ⟨hw.1, by decide⟩ ?_
            replace hw := hw.2
            obtain ⟨c14, hx, hw⟩ := hw
            rw [hx]
            refine am_E.run [] 2000 (show (if (am_ts T c14).1 = 20 then (if (v1 - 2) < 0 ∨ (am_ts T c14).2 ≤ Int32.toNatClampNeg (v1 - 2) then False else (True ∧ Q (some (.int (I c14 (Int32.toNatClampNeg (v1 - 2))))) (N, am_ts T, I, L, am_rs r))) else False) from ?_)
            refine am_ifp hw.1 ?_
            replace hw := hw.2
            refine am_ifn hw.1 ?_
            replace hw := hw.2
            exact ⟨trivial, hK _ _ _ _ _ _ hw⟩
def wb_135_30 (v1 : Int32) (N : Nat) (T : Nat → Nat × Nat) (r : Nat → Nat → Option Nat) (I : am_I) (L : am_J) (K : Int32 → Nat → (Nat → Nat × Nat) → (Nat → Nat → Option Nat) → am_I → am_J → Prop) : Prop :=
  if (I 0 10) = 0 then
    ((am_rs r 0 9) = none →
      False) ∧ ∀ t17, (am_rs r 0 9) = some t17 →
      ((am_ts T t17).1 = 9) ∧
      w_138 t17 T r I (fun I18 =>
        wb_135_57b v1 N T r (am_u I18 0 10 1) L K)
  else
    wb_135_57b v1 N T r I L K
set_option maxHeartbeats 6000000 in
set_option maxRecDepth 100000 in
theorem sb_135_30 {S : am_S} {d : Nat} {N : Nat} {T : Nat → Nat × Nat} {I : am_I} {L : am_J} {r : Nat → Nat → Option Nat} {Q : am_Q} {v1 : Int32} {K : Int32 → Nat → (Nat → Nat × Nat) → (Nat → Nat → Option Nat) → am_I → am_J → Prop} (hw : wb_135_30 v1 N T r I L K) (hK : ∀ (q : Int32) (N1 : Nat) (T1 : Nat → Nat × Nat) (r1 : Nat → Nat → Option Nat) (I1 : am_I) (L1 : am_J), K q N1 T1 r1 I1 L1 → Q (some (.int q)) (N1, am_ts T1, I1, L1, am_rs r1)) : am_E S 135 (d + 6) 0 0 30 [.ref 0, .int v1] [] (N, am_ts T, I, L, am_rs r) Q := by
  unfold wb_135_30 at hw
  try dsimp only at hw
  refine am_E.run [41, 57] 2000 (show (if (I 0 10) = 0 then (am_E S 135 (d + 6) 0 0 41 [.ref 0, .int v1] [am_rv (am_rs r 0 9)] (N, am_ts T, I, L, am_rs r) Q) else (am_E S 135 (d + 6) 0 0 57 [.ref 0, .int v1] [] (N, am_ts T, I, L, am_rs r) Q)) from ?_)
  by_cases hc : (I 0 10) = 0
  · rw [if_pos hc] at hw ⊢
    cases hx : (am_rs r 0 9) with
    | none =>
      replace hw := hw.1 hx
      refine am_E.run [49] 2000 (show (am_E S 135 (d + 6) 0 0 49 [.ref 0, .int v1] [.ref 23, .ref 1, .null] (N, am_ts T, I, L, am_rs r) Q) from ?_)
      exact hw.elim
    | some t17 =>
      replace hw := hw.2 t17 hx
      refine am_E.run [49] 2000 (show (am_E S 135 (d + 6) 0 0 49 [.ref 0, .int v1] [.ref 23, .ref 1, .ref t17] (N, am_ts T, I, L, am_rs r) Q) from ?_)
      refine am_E.go (show (if (List.length (List.take 2 [.ref 23, .ref 1, .ref t17]) = 2 ∧ (am_ts T t17).1 = 9) then _ else False) from ?_)
      refine am_ifp ⟨rfl, hw.1⟩ ?_
      replace hw := hw.2
      refine ⟨am_kv_I N T L r _, s_138 hw (fun I18 hk => ⟨I18, rfl, rfl, hk⟩), ?_⟩
      intro v h9 hv
      obtain ⟨I18, rfl, rfl, hw⟩ := hv
      try dsimp only at hw
      refine am_E.run [57] 2000 (show (am_E S 135 (d + 6) 0 0 57 [.ref 0, .int v1] [] (N, am_ts T, (am_u I18 0 10 1), L, am_rs r) Q) from ?_)
      exact sb_135_57b hw hK
  · rw [if_neg hc] at hw ⊢
    exact sb_135_57b hw hK
/-- KeyKeepers.rota(I)I -/
def w_135 (x0 : Int32) (N : Nat) (T : Nat → Nat × Nat) (r : Nat → Nat → Option Nat) (I : am_I) (L : am_J) (K : Int32 → Nat → (Nat → Nat × Nat) → (Nat → Nat → Option Nat) → am_I → am_J → Prop) : Prop :=
  if (f_13 x0 0 7) = 0 then
    K (-1) N T r I L
  else
    ((am_rs r 0 9) = none →
      99 ≤ N ∧ 
      ((am_ts (am_tn T N 9 0) N).1 = 9) ∧
      w_136 N (N + 1) (am_tn T N 9 0) (am_z r N none) (am_z I N 0) (am_z L N 0) (fun N2 T2 r2 I3 L4 =>
        am_fr 0 9 ∧ 
        if (I3 0 10) = 0 then
          ((am_rs (am_u r2 0 9 (some N)) 0 9) = none →
            False) ∧ ∀ t10, (am_rs (am_u r2 0 9 (some N)) 0 9) = some t10 →
            ((am_ts T2 t10).1 = 9) ∧
            w_138 t10 T2 (am_u r2 0 9 (some N)) I3 (fun I11 =>
              wb_135_57 x0 N2 T2 (am_u r2 0 9 (some N)) (am_u I11 0 10 1) L4 K)
        else
          wb_135_57 x0 N2 T2 (am_u r2 0 9 (some N)) I3 L4 K)) ∧ ∀ t1, (am_rs r 0 9) = some t1 →
      wb_135_30 x0 N T r I L K
set_option maxHeartbeats 6000000 in
set_option maxRecDepth 100000 in
theorem s_135 {S : am_S} {d : Nat} {N : Nat} {T : Nat → Nat × Nat} {I : am_I} {L : am_J} {r : Nat → Nat → Option Nat} {Q : am_Q} {x0 : Int32} {K : Int32 → Nat → (Nat → Nat × Nat) → (Nat → Nat → Option Nat) → am_I → am_J → Prop} (hw : w_135 x0 N T r I L K) (hK : ∀ (q : Int32) (N1 : Nat) (T1 : Nat → Nat × Nat) (r1 : Nat → Nat → Option Nat) (I1 : am_I) (L1 : am_J), K q N1 T1 r1 I1 L1 → Q (some (.int q)) (N1, am_ts T1, I1, L1, am_rs r1)) : am_E S 135 (d + 6) 0 0 0 [.ref 0, .int x0] [] (N, am_ts T, I, L, am_rs r) Q := by
  unfold w_135 at hw
  try dsimp only at hw
  refine am_E.run [4] 2000 (show (am_E S 135 (d + 6) 0 0 4 [.ref 0, .int x0] [.int 7, .int 0, .int x0] (N, am_ts T, I, L, am_rs r) Q) from ?_)
  refine am_E.go ⟨fun v h9 => v = some (.int (f_13 x0 0 7)) ∧ h9 = (N, am_ts T, I, L, am_rs r), s_13 ⟨rfl, rfl⟩, ?_⟩
  intro v h9 hv
  obtain ⟨rfl, rfl⟩ := hv
  refine am_E.run [16] 2000 (show (if (f_13 x0 0 7) = 0 then (True ∧ Q (some (.int (-1))) (N, am_ts T, I, L, am_rs r)) else (am_E S 135 (d + 6) 0 0 16 [.ref 0, .int x0] [am_rv (am_rs r 0 9)] (N, am_ts T, I, L, am_rs r) Q)) from ?_)
  by_cases hc : (f_13 x0 0 7) = 0
  · rw [if_pos hc] at hw ⊢
    exact ⟨trivial, hK _ _ _ _ _ _ hw⟩
  · rw [if_neg hc] at hw ⊢
    cases hx : (am_rs r 0 9) with
    | none =>
      replace hw := hw.1 hx
      refine am_E.run [23] 2000 (show (am_E S 135 (d + 6) 1 11 23 [.ref 0, .int x0] [.ref N, .ref 0] (am_n (N, am_ts T, I, L, am_rs r) 9 0) Q) from ?_)
      have hN := hw.1
      replace hw := hw.2
      rw [am_n_eq hN]
      refine am_E.run [24] 2000 (show (am_E S 135 (d + 6) 1 11 24 [.ref 0, .int x0] [.ref N, .ref N, .ref 0] ((N + 1), am_ts (am_tn T N 9 0), (am_z I N 0), (am_z L N 0), am_rs (am_z r N none)) Q) from ?_)
      refine am_E.go (show (if (List.length (List.take 0 [.ref N, .ref N, .ref 0]) = 0 ∧ (am_ts (am_tn T N 9 0) N).1 = 9) then _ else False) from ?_)
      refine am_ifp ⟨rfl, hw.1⟩ ?_
      replace hw := hw.2
      refine ⟨am_kv_NTrIL _, s_136 hw (fun N2 T2 r2 I3 L4 hk => ⟨N2, T2, r2, I3, L4, rfl, rfl, hk⟩), ?_⟩
      intro v h9 hv
      obtain ⟨N2, T2, r2, I3, L4, rfl, rfl, hw⟩ := hv
      try dsimp only at hw
      refine am_E.run [30] 2000 (show (am_E S 135 (d + 6) 10 11333 30 [.ref 0, .int x0] [] (N2, am_ts T2, I3, L4, am_u (am_rs r2) 0 9 (some N)) Q) from ?_)
      have hN := hw.1
      replace hw := hw.2
      rw [am_rs_u hN]
      refine am_E.run [41, 57] 2000 (show (if (I3 0 10) = 0 then (am_E S 135 (d + 6) 10 11333 41 [.ref 0, .int x0] [am_rv (am_rs (am_u r2 0 9 (some N)) 0 9)] (N2, am_ts T2, I3, L4, am_rs (am_u r2 0 9 (some N))) Q) else (am_E S 135 (d + 6) 10 11333 57 [.ref 0, .int x0] [] (N2, am_ts T2, I3, L4, am_rs (am_u r2 0 9 (some N))) Q)) from ?_)
      by_cases hc : (I3 0 10) = 0
      · rw [if_pos hc] at hw ⊢
        cases hx : (am_rs (am_u r2 0 9 (some N)) 0 9) with
        | none =>
          replace hw := hw.1 hx
          refine am_E.run [49] 2000 (show (am_E S 135 (d + 6) 10 11333 49 [.ref 0, .int x0] [.ref 23, .ref 1, .null] (N2, am_ts T2, I3, L4, am_rs (am_u r2 0 9 (some N))) Q) from ?_)
          exact hw.elim
        | some t10 =>
          replace hw := hw.2 t10 hx
          refine am_E.run [49] 2000 (show (am_E S 135 (d + 6) 10 11333 49 [.ref 0, .int x0] [.ref 23, .ref 1, .ref t10] (N2, am_ts T2, I3, L4, am_rs (am_u r2 0 9 (some N))) Q) from ?_)
          refine am_E.go (show (if (List.length (List.take 2 [.ref 23, .ref 1, .ref t10]) = 2 ∧ (am_ts T2 t10).1 = 9) then _ else False) from ?_)
          refine am_ifp ⟨rfl, hw.1⟩ ?_
          replace hw := hw.2
          refine ⟨am_kv_I N2 T2 L4 (am_u r2 0 9 (some N)) _, s_138 hw (fun I11 hk => ⟨I11, rfl, rfl, hk⟩), ?_⟩
          intro v h9 hv
          obtain ⟨I11, rfl, rfl, hw⟩ := hv
          try dsimp only at hw
          refine am_E.run [57] 2000 (show (am_E S 135 (d + 6) 10 11333 57 [.ref 0, .int x0] [] (N2, am_ts T2, (am_u I11 0 10 1), L4, am_rs (am_u r2 0 9 (some N))) Q) from ?_)
          exact sb_135_57 hw hK
      · rw [if_neg hc] at hw ⊢
        exact sb_135_57 hw hK
    | some t1 =>
      replace hw := hw.2 t1 hx
      refine am_E.run [30] 2000 (show (am_E S 135 (d + 6) 0 0 30 [.ref 0, .int x0] [] (N, am_ts T, I, L, am_rs r) Q) from ?_)
      exact sb_135_30 hw hK
