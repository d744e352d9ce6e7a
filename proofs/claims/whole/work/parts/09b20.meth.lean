def wb_229_66 (s1 : Int32) (I : am_I) (L : am_J) (K : Int32 → am_I → am_J → Prop) : Prop :=
  w_222 s1 0 I (fun I3 =>
    w_207 I3 L (fun I4 L5 =>
      K 0 I4 L5))
set_option maxRecDepth 100000 in
theorem sb_229_66 {S : am_S} {d : Nat} {N : Nat} {T : Nat → Nat × Nat} {I : am_I} {L : am_J} {r : Nat → Nat → Option Nat} {Q : am_Q} {s1 : Int32} {K : Int32 → am_I → am_J → Prop} (hw : wb_229_66 s1 I L K) (hK : ∀ (q : Int32) (I1 : am_I) (L1 : am_J), K q I1 L1 → Q (some (.int q)) (N, am_ts T, I1, L1, am_rs r)) : am_E S 229 (d + 3) 0 0 66 [.ref 66, am_jk] [.int s1, .ref 66] (N, am_ts T, I, L, am_rs r) Q := by
  unfold wb_229_66 at hw
  try dsimp only at hw
  refine am_E.run [67] 2000 (show (am_E S 229 (d + 3) 0 0 67 [.ref 66, am_jk] [.int 0, .int s1, .ref 66] (N, am_ts T, I, L, am_rs r) Q) from ?_)
  refine am_E.go ⟨am_kv_I N T L r _, s_222 hw (fun I3 hk => ⟨I3, rfl, rfl, hk⟩), ?_⟩
  intro v h9 hv
  obtain ⟨I3, rfl, rfl, hw⟩ := hv
  try dsimp only at hw
  refine am_E.run [71] 2000 (show (am_E S 229 (d + 3) 0 0 71 [.ref 66, am_jk] [.ref 66] (N, am_ts T, I3, L, am_rs r) Q) from ?_)
  refine am_E.go ⟨am_kv_IL N T r _, s_207 hw (fun I4 L5 hk => ⟨I4, L5, rfl, rfl, hk⟩), ?_⟩
  intro v h9 hv
  obtain ⟨I4, L5, rfl, rfl, hw⟩ := hv
  try dsimp only at hw
  refine am_E.run [] 2000 (show (True ∧ Q (some (.int 0)) (N, am_ts T, I4, L5, am_rs r)) from ?_)
  exact ⟨trivial, hK _ _ _ hw⟩
def wb_229_47 (v1 : Int32) (s1 : Int32) (I : am_I) (L : am_J) (K : Int32 → am_I → am_J → Prop) : Prop :=
  w_215 s1 (I 66 23) I (fun I2 =>
    if v1 = 0 then
      wb_229_66 30 I2 L K
    else
      wb_229_66 29 I2 L K)
set_option maxRecDepth 100000 in
theorem sb_229_47 {S : am_S} {d : Nat} {N : Nat} {T : Nat → Nat × Nat} {I : am_I} {L : am_J} {r : Nat → Nat → Option Nat} {Q : am_Q} {v1 : Int32} {s1 : Int32} {K : Int32 → am_I → am_J → Prop} (hw : wb_229_47 v1 s1 I L K) (hK : ∀ (q : Int32) (I1 : am_I) (L1 : am_J), K q I1 L1 → Q (some (.int q)) (N, am_ts T, I1, L1, am_rs r)) : am_E S 229 (d + 3) 0 0 47 [.ref 66, .int v1] [.int s1, .ref 66] (N, am_ts T, I, L, am_rs r) Q := by
  unfold wb_229_47 at hw
  try dsimp only at hw
  refine am_E.run [51] 2000 (show (am_E S 229 (d + 3) 0 0 51 [.ref 66, .int v1] [.int (I 66 23), .int s1, .ref 66] (N, am_ts T, I, L, am_rs r) Q) from ?_)
  refine am_E.go ⟨am_kv_I N T L r _, s_215 hw (fun I2 hk => ⟨I2, rfl, rfl, hk⟩), ?_⟩
  intro v h9 hv
  obtain ⟨I2, rfl, rfl, hw⟩ := hv
  try dsimp only at hw
  refine am_E.run [66] 2000 (show (if v1 = 0 then (am_E S 229 (d + 3) 0 0 66 [.ref 66, .int v1] [.int 30, .ref 66] (N, am_ts T, I2, L, am_rs r) Q) else (am_E S 229 (d + 3) 0 0 66 [.ref 66, .int v1] [.int 29, .ref 66] (N, am_ts T, I2, L, am_rs r) Q)) from ?_)
  by_cases hc : v1 = 0
  · rw [if_pos hc] at hw ⊢
    exact am_E.junk (sb_229_66 hw hK) (am_le.cons (am_le.jk am_le.nil))
  · rw [if_neg hc] at hw ⊢
    exact am_E.junk (sb_229_66 hw hK) (am_le.cons (am_le.jk am_le.nil))
def wb_229_32 (v1 : Int32) (s1 : Int32) (I : am_I) (L : am_J) (K : Int32 → am_I → am_J → Prop) : Prop :=
  w_226 s1 I (fun I1 =>
    if v1 = 0 then
      wb_229_47 v1 30 I1 L K
    else
      wb_229_47 v1 29 I1 L K)
set_option maxRecDepth 100000 in
theorem sb_229_32 {S : am_S} {d : Nat} {N : Nat} {T : Nat → Nat × Nat} {I : am_I} {L : am_J} {r : Nat → Nat → Option Nat} {Q : am_Q} {v1 : Int32} {s1 : Int32} {K : Int32 → am_I → am_J → Prop} (hw : wb_229_32 v1 s1 I L K) (hK : ∀ (q : Int32) (I1 : am_I) (L1 : am_J), K q I1 L1 → Q (some (.int q)) (N, am_ts T, I1, L1, am_rs r)) : am_E S 229 (d + 3) 0 0 32 [.ref 66, .int v1] [.int s1, .ref 66] (N, am_ts T, I, L, am_rs r) Q := by
  unfold wb_229_32 at hw
  try dsimp only at hw
  show (am_E S 229 (d + 3) 0 0 32 [.ref 66, .int v1] [.int s1, .ref 66] (N, am_ts T, I, L, am_rs r) Q)
  refine am_E.go ⟨am_kv_I N T L r _, s_226 hw (fun I1 hk => ⟨I1, rfl, rfl, hk⟩), ?_⟩
  intro v h9 hv
  obtain ⟨I1, rfl, rfl, hw⟩ := hv
  try dsimp only at hw
  refine am_E.run [47] 2000 (show (if v1 = 0 then (am_E S 229 (d + 3) 0 0 47 [.ref 66, .int v1] [.int 30, .ref 66] (N, am_ts T, I1, L, am_rs r) Q) else (am_E S 229 (d + 3) 0 0 47 [.ref 66, .int v1] [.int 29, .ref 66] (N, am_ts T, I1, L, am_rs r) Q)) from ?_)
  by_cases hc : v1 = 0
  · rw [if_pos hc] at hw ⊢
    exact sb_229_47 hw hK
  · rw [if_neg hc] at hw ⊢
    exact sb_229_47 hw hK
def wb_229_22 (v1 : Int32) (I : am_I) (L : am_J) (K : Int32 → am_I → am_J → Prop) : Prop :=
  if v1 = 0 then
    wb_229_32 v1 1 I L K
  else
    wb_229_32 v1 2 I L K
set_option maxRecDepth 100000 in
theorem sb_229_22 {S : am_S} {d : Nat} {N : Nat} {T : Nat → Nat × Nat} {I : am_I} {L : am_J} {r : Nat → Nat → Option Nat} {Q : am_Q} {v1 : Int32} {K : Int32 → am_I → am_J → Prop} (hw : wb_229_22 v1 I L K) (hK : ∀ (q : Int32) (I1 : am_I) (L1 : am_J), K q I1 L1 → Q (some (.int q)) (N, am_ts T, I1, L1, am_rs r)) : am_E S 229 (d + 3) 0 0 22 [.ref 66, .int v1] [] (N, am_ts T, I, L, am_rs r) Q := by
  unfold wb_229_22 at hw
  try dsimp only at hw
  refine am_E.run [32] 2000 (show (if v1 = 0 then (am_E S 229 (d + 3) 0 0 32 [.ref 66, .int v1] [.int 1, .ref 66] (N, am_ts T, I, L, am_rs r) Q) else (am_E S 229 (d + 3) 0 0 32 [.ref 66, .int v1] [.int 2, .ref 66] (N, am_ts T, I, L, am_rs r) Q)) from ?_)
  by_cases hc : v1 = 0
  · rw [if_pos hc] at hw ⊢
    exact sb_229_32 hw hK
  · rw [if_neg hc] at hw ⊢
    exact sb_229_32 hw hK
/-- KeyKeepersModel.behindTest()I -/
def w_229 (I : am_I) (L : am_J) (K : Int32 → am_I → am_J → Prop) : Prop :=
  if (f_211 1476 I L) = 0 then
    if (f_211 498 I L) = 0 then
      w_227 I (fun q6 =>
        if q6 = (-1) then
          K 4 I L
        else
          w_212 (f_216 41 I L) I L (fun I7 L8 =>
            if (I7 66 19) = 0 then
              w_226 1 I7 (fun I9 =>
                K 2 (am_u (am_u I9 66 29 ((I9 66 29) - 1)) 66 30 ((I9 66 30) - 1)) L8)
            else
              K 2 I7 L8))
    else
      wb_229_22 (f_211 1476 I L) I L K
  else
    wb_229_22 (f_211 1476 I L) I L K
set_option maxRecDepth 100000 in
theorem s_229 {S : am_S} {d : Nat} {N : Nat} {T : Nat → Nat × Nat} {I : am_I} {L : am_J} {r : Nat → Nat → Option Nat} {Q : am_Q} {K : Int32 → am_I → am_J → Prop} (hw : w_229 I L K) (hK : ∀ (q : Int32) (I1 : am_I) (L1 : am_J), K q I1 L1 → Q (some (.int q)) (N, am_ts T, I1, L1, am_rs r)) : am_E S 229 (d + 3) 0 0 0 [.ref 66, am_jk] [] (N, am_ts T, I, L, am_rs r) Q := by
  unfold w_229 at hw
  try dsimp only at hw
  refine am_E.run [4] 2000 (show (am_E S 229 (d + 3) 0 0 4 [.ref 66, am_jk] [.long 1476, .ref 66] (N, am_ts T, I, L, am_rs r) Q) from ?_)
  refine am_E.go ⟨fun v h9 => v = some (.int (f_211 1476 I L)) ∧ h9 = (N, am_ts T, I, L, am_rs r), s_211 ⟨rfl, rfl⟩, ?_⟩
  intro v h9 hv
  obtain ⟨rfl, rfl⟩ := hv
  refine am_E.run [16, 22] 2000 (show (if (f_211 1476 I L) = 0 then (am_E S 229 (d + 3) 0 0 16 [.ref 66, .int (f_211 1476 I L)] [.long 498, .ref 66] (N, am_ts T, I, L, am_rs r) Q) else (am_E S 229 (d + 3) 0 0 22 [.ref 66, .int (f_211 1476 I L)] [] (N, am_ts T, I, L, am_rs r) Q)) from ?_)
  by_cases hc : (f_211 1476 I L) = 0
  · rw [if_pos hc] at hw ⊢
    refine am_E.go ⟨fun v h9 => v = some (.int (f_211 498 I L)) ∧ h9 = (N, am_ts T, I, L, am_rs r), s_211 ⟨rfl, rfl⟩, ?_⟩
    intro v h9 hv
    obtain ⟨rfl, rfl⟩ := hv
    refine am_E.run [22, 77] 2000 (show (if (f_211 498 I L) = 0 then (am_E S 229 (d + 3) 0 0 77 [.ref 66, .int (f_211 1476 I L)] [.ref 66] (N, am_ts T, I, L, am_rs r) Q) else (am_E S 229 (d + 3) 0 0 22 [.ref 66, .int (f_211 1476 I L)] [] (N, am_ts T, I, L, am_rs r) Q)) from ?_)
    by_cases hc : (f_211 498 I L) = 0
    · rw [if_pos hc] at hw ⊢
      refine am_E.go ⟨am_ki_ N T I L r _, s_227 hw (fun q6 hk => ⟨q6, rfl, rfl, hk⟩), ?_⟩
      intro v h9 hv
      obtain ⟨q6, rfl, rfl, hw⟩ := hv
      try dsimp only at hw
      refine am_E.run [90] 2000 (show (if q6 = (-1) then (True ∧ Q (some (.int 4)) (N, am_ts T, I, L, am_rs r)) else (am_E S 229 (d + 3) 0 0 90 [.ref 66, .int (f_211 1476 I L)] [.int 41, .ref 66, .ref 66] (N, am_ts T, I, L, am_rs r) Q)) from ?_)
      by_cases hc : q6 = (-1)
      · rw [if_pos hc] at hw ⊢
        exact ⟨trivial, hK _ _ _ hw⟩
      · rw [if_neg hc] at hw ⊢
        refine am_E.go ⟨fun v h9 => v = some (.int (f_216 41 I L)) ∧ h9 = (N, am_ts T, I, L, am_rs r), s_216 ⟨rfl, rfl⟩, ?_⟩
        intro v h9 hv
        obtain ⟨rfl, rfl⟩ := hv
        show (am_E S 229 (d + 3) 0 0 93 [.ref 66, .int (f_211 1476 I L)] [.int (f_216 41 I L), .ref 66] (N, am_ts T, I, L, am_rs r) Q)
        refine am_E.go ⟨am_kv_IL N T r _, s_212 hw (fun I7 L8 hk => ⟨I7, L8, rfl, rfl, hk⟩), ?_⟩
        intro v h9 hv
        obtain ⟨I7, L8, rfl, rfl, hw⟩ := hv
        try dsimp only at hw
        refine am_E.run [105] 2000 (show (if (I7 66 19) = 0 then (am_E S 229 (d + 3) 0 0 105 [.ref 66, .int (f_211 1476 I L)] [.int 1, .ref 66] (N, am_ts T, I7, L8, am_rs r) Q) else (True ∧ Q (some (.int 2)) (N, am_ts T, I7, L8, am_rs r))) from ?_)
        by_cases hc : (I7 66 19) = 0
        · rw [if_pos hc] at hw ⊢
          refine am_E.go ⟨am_kv_I N T L8 r _, s_226 hw (fun I9 hk => ⟨I9, rfl, rfl, hk⟩), ?_⟩
          intro v h9 hv
          obtain ⟨I9, rfl, rfl, hw⟩ := hv
          try dsimp only at hw
          refine am_E.run [] 2000 (show (True ∧ Q (some (.int 2)) (N, am_ts T, (am_u (am_u I9 66 29 ((I9 66 29) - 1)) 66 30 ((I9 66 30) - 1)), L8, am_rs r)) from ?_)
          exact ⟨trivial, hK _ _ _ hw⟩
        · rw [if_neg hc] at hw ⊢
          exact ⟨trivial, hK _ _ _ hw⟩
    · rw [if_neg hc] at hw ⊢
      exact sb_229_22 hw hK
  · rw [if_neg hc] at hw ⊢
    exact sb_229_22 hw hK
/-- KeyKeepersModel.endText()V -/
def w_230 (I : am_I) (L : am_J) (K : am_I → am_J → Prop) : Prop :=
  if (I 66 19) = 0 then
    if (I 66 16) = 0 then
      K (am_u (am_u I 66 20 0) 66 13 0) L
    else
      w_212 0 I L (fun I1 L2 =>
        K (am_u (am_u I1 66 20 0) 66 13 0) L2)
  else
    K (am_u (am_u I 66 20 0) 66 13 0) L
set_option maxRecDepth 100000 in
theorem s_230 {S : am_S} {d : Nat} {N : Nat} {T : Nat → Nat × Nat} {I : am_I} {L : am_J} {r : Nat → Nat → Option Nat} {Q : am_Q} {K : am_I → am_J → Prop} (hw : w_230 I L K) (hK : ∀ (I1 : am_I) (L1 : am_J), K I1 L1 → Q (none) (N, am_ts T, I1, L1, am_rs r)) : am_E S 230 (d + 3) 0 0 0 [.ref 66] [] (N, am_ts T, I, L, am_rs r) Q := by
  unfold w_230 at hw
  try dsimp only at hw
  refine am_E.run [16] 2000 (show (if (I 66 19) = 0 then (if (I 66 16) = 0 then (True ∧ Q (none) (N, am_ts T, (am_u (am_u I 66 20 0) 66 13 0), L, am_rs r)) else (am_E S 230 (d + 3) 0 0 16 [.ref 66] [.int 0, .ref 66] (N, am_ts T, I, L, am_rs r) Q)) else (True ∧ Q (none) (N, am_ts T, (am_u (am_u I 66 20 0) 66 13 0), L, am_rs r))) from ?_)
  by_cases hc : (I 66 19) = 0
  · rw [if_pos hc] at hw ⊢
    by_cases hc : (I 66 16) = 0
    · rw [if_pos hc] at hw ⊢
      exact ⟨trivial, hK _ _ hw⟩
    · rw [if_neg hc] at hw ⊢
      refine am_E.go ⟨am_kv_IL N T r _, s_212 hw (fun I1 L2 hk => ⟨I1, L2, rfl, rfl, hk⟩), ?_⟩
      intro v h9 hv
      obtain ⟨I1, L2, rfl, rfl, hw⟩ := hv
      try dsimp only at hw
      refine am_E.run [] 2000 (show (True ∧ Q (none) (N, am_ts T, (am_u (am_u I1 66 20 0) 66 13 0), L2, am_rs r)) from ?_)
      exact ⟨trivial, hK _ _ hw⟩
  · rw [if_neg hc] at hw ⊢
    exact ⟨trivial, hK _ _ hw⟩
/-- KeyKeepersModel.force(I)I -/
def w_231 (x0 : Int32) (I : am_I) (K : Int32 → am_I → Prop) : Prop :=
  if (f_232 x0 (am_u I 66 0 0)) = 0 then
    w_179 (-2) (am_u I 66 0 0) (fun q1 I2 =>
      K q1 I2)
  else
    w_188 4 x0 (am_u I 66 0 0) (fun q3 I4 =>
      K q3 I4)
set_option maxRecDepth 100000 in
theorem s_231 {S : am_S} {d : Nat} {N : Nat} {T : Nat → Nat × Nat} {I : am_I} {L : am_J} {r : Nat → Nat → Option Nat} {Q : am_Q} {x0 : Int32} {K : Int32 → am_I → Prop} (hw : w_231 x0 I K) (hK : ∀ (q : Int32) (I1 : am_I), K q I1 → Q (some (.int q)) (N, am_ts T, I1, L, am_rs r)) : am_E S 231 (d + 2) 0 0 0 [.ref 66, .int x0] [] (N, am_ts T, I, L, am_rs r) Q := by
  unfold w_231 at hw
  try dsimp only at hw
  refine am_E.run [7] 2000 (show (am_E S 231 (d + 2) 0 0 7 [.ref 66, .int x0] [.int x0, .ref 66] (N, am_ts T, (am_u I 66 0 0), L, am_rs r) Q) from ?_)
  refine am_E.go ⟨fun v h9 => v = some (.int (f_232 x0 (am_u I 66 0 0))) ∧ h9 = (N, am_ts T, (am_u I 66 0 0), L, am_rs r), s_232 ⟨rfl, rfl⟩, ?_⟩
  intro v h9 hv
  obtain ⟨rfl, rfl⟩ := hv
  refine am_E.run [16, 25] 2000 (show (if (f_232 x0 (am_u I 66 0 0)) = 0 then (am_E S 231 (d + 2) 0 0 25 [.ref 66, .int x0] [.int (-2), .ref 66] (N, am_ts T, (am_u I 66 0 0), L, am_rs r) Q) else (am_E S 231 (d + 2) 0 0 16 [.ref 66, .int x0] [.int x0, .int 4, .ref 66] (N, am_ts T, (am_u I 66 0 0), L, am_rs r) Q)) from ?_)
  by_cases hc : (f_232 x0 (am_u I 66 0 0)) = 0
  · rw [if_pos hc] at hw ⊢
    refine am_E.go ⟨am_ki_I N T L r _, s_179 hw (fun q1 I2 hk => ⟨q1, I2, rfl, rfl, hk⟩), ?_⟩
    intro v h9 hv
    obtain ⟨q1, I2, rfl, rfl, hw⟩ := hv
    try dsimp only at hw
    refine am_E.run [] 2000 (show (True ∧ Q (some (.int q1)) (N, am_ts T, I2, L, am_rs r)) from ?_)
    exact ⟨trivial, hK _ _ hw⟩
  · rw [if_neg hc] at hw ⊢
    refine am_E.go ⟨am_ki_I N T L r _, s_188 hw (fun q3 I4 hk => ⟨q3, I4, rfl, rfl, hk⟩), ?_⟩
    intro v h9 hv
    obtain ⟨q3, I4, rfl, rfl, hw⟩ := hv
    try dsimp only at hw
    refine am_E.run [] 2000 (show (True ∧ Q (some (.int q3)) (N, am_ts T, I4, L, am_rs r)) from ?_)
    exact ⟨trivial, hK _ _ hw⟩
def wb_239_363 (v2 : Int32) (v3 : Int32) (v4 : Int32) (v6 : Int32) (s0 : Int64) (s1 : Int64) (I : am_I) (L : am_J) (B : Int32 → Int32 → am_I → am_J → Prop) (E0 : Int32 → Int32 → am_I → am_J → Prop) : Prop :=
  if (lg_cmp s0 s1) = 0 then
    B v3 v6 I L
  else
    B (v3 + (-1)) v4 I L
set_option maxHeartbeats 6000000 in
set_option maxRecDepth 100000 in
theorem sb_239_363 {S : am_S} {d : Nat} {N : Nat} {T : Nat → Nat × Nat} {I : am_I} {L : am_J} {r : Nat → Nat → Option Nat} {Q : am_Q} {v2 : Int32} {v3 : Int32} {v4 : Int32} {v6 : Int32} {s0 : Int64} {s1 : Int64} {B : Int32 → Int32 → am_I → am_J → Prop} {E0 : Int32 → Int32 → am_I → am_J → Prop} (hw : wb_239_363 v2 v3 v4 v6 s0 s1 I L B E0) (hB : ∀ (o3 : Int32) (o4 : Int32) (I1 : am_I) (L1 : am_J), B o3 o4 I1 L1 → am_E S 239 (d + 2) 0 0 10 [.ref 66, am_jk, .int v2, .int o3, .int o4, am_jk, am_jk] [] (N, am_ts T, I1, L1, am_rs r) Q) (hE0 : ∀ (o3 : Int32) (o4 : Int32) (I1 : am_I) (L1 : am_J), E0 o3 o4 I1 L1 → am_E S 239 (d + 2) 0 0 380 [.ref 66, am_jk, .int v2, .int o3, .int o4, am_jk, am_jk] [] (N, am_ts T, I1, L1, am_rs r) Q) : am_E S 239 (d + 2) 0 0 363 [.ref 66, am_jk, .int v2, .int v3, .int v4, am_jk, .int v6] [.long s1, .long s0] (N, am_ts T, I, L, am_rs r) Q := by
  unfold wb_239_363 at hw
  try dsimp only at hw
  refine am_E.run [367, 374] 2000 (show (if (lg_cmp s0 s1) = 0 then (am_E S 239 (d + 2) 0 0 367 [.ref 66, am_jk, .int v2, .int v3, .int v4, am_jk, .int v6] [] (N, am_ts T, I, L, am_rs r) Q) else (am_E S 239 (d + 2) 0 0 374 [.ref 66, am_jk, .int v2, .int v3, .int v4, am_jk, .int v6] [] (N, am_ts T, I, L, am_rs r) Q)) from ?_)
  by_cases hc : (lg_cmp s0 s1) = 0
  · rw [if_pos hc] at hw ⊢
    refine am_E.run [10] 2000 (show (am_E S 239 (d + 2) 0 0 10 [.ref 66, am_jk, .int v2, .int v3, .int v6, am_jk, .int v6] [] (N, am_ts T, I, L, am_rs r) Q) from ?_)
    exact am_E.junk (hB _ _ _ _ hw) (am_le.cons (am_le.cons (am_le.cons (am_le.cons (am_le.cons (am_le.cons (am_le.jk am_le.nil)))))))
  · rw [if_neg hc] at hw ⊢
    refine am_E.run [10] 2000 (show (am_E S 239 (d + 2) 0 0 10 [.ref 66, am_jk, .int v2, .int (v3 + (-1)), .int v4, am_jk, .int v6] [] (N, am_ts T, I, L, am_rs r) Q) from ?_)
    exact am_E.junk (hB _ _ _ _ hw) (am_le.cons (am_le.cons (am_le.cons (am_le.cons (am_le.cons (am_le.cons (am_le.jk am_le.nil)))))))
def wb_239_248 (v2 : Int32) (v3 : Int32) (v4 : Int32) (v5 : Int32) (I : am_I) (L : am_J) (B : Int32 → Int32 → am_I → am_J → Prop) (E0 : Int32 → Int32 → am_I → am_J → Prop) : Prop :=
  ¬ ((v3 - 1) < 0 ∨ 400 ≤ Int32.toNatClampNeg (v3 - 1)) ∧
  ¬ (v3 < 0 ∨ 400 ≤ Int32.toNatClampNeg v3) ∧
  w_240 v5 (L 86 (Int32.toNatClampNeg (v3 - 1))) (L 86 (Int32.toNatClampNeg v3)) I (fun q1 I2 =>
    ¬ ((v3 - 1) < 0 ∨ 400 ≤ Int32.toNatClampNeg (v3 - 1)) ∧
    if (I2 66 38) = 0 then
      ¬ ((v3 - 1) < 0 ∨ 400 ≤ Int32.toNatClampNeg (v3 - 1)) ∧
      if (f_182 ((am_u L 86 (Int32.toNatClampNeg (v3 - 1)) q1) 86 (Int32.toNatClampNeg (v3 - 1))) (-1000000000) 1000000000) = 0 then
        B v3 v4 (am_u I2 66 38 1) (am_u L 86 (Int32.toNatClampNeg (v3 - 1)) q1)
      else
        B v3 v4 (am_u I2 66 38 0) (am_u L 86 (Int32.toNatClampNeg (v3 - 1)) q1)
    else
      B v3 v4 (am_u I2 66 38 1) (am_u L 86 (Int32.toNatClampNeg (v3 - 1)) q1))
set_option maxHeartbeats 6000000 in
set_option maxRecDepth 100000 in
theorem sb_239_248 {S : am_S} {d : Nat} {N : Nat} {T : Nat → Nat × Nat} {I : am_I} {L : am_J} {r : Nat → Nat → Option Nat} {Q : am_Q} {v2 : Int32} {v3 : Int32} {v4 : Int32} {v5 : Int32} {B : Int32 → Int32 → am_I → am_J → Prop} {E0 : Int32 → Int32 → am_I → am_J → Prop} (hw : wb_239_248 v2 v3 v4 v5 I L B E0) (hB : ∀ (o3 : Int32) (o4 : Int32) (I1 : am_I) (L1 : am_J), B o3 o4 I1 L1 → am_E S 239 (d + 2) 0 0 10 [.ref 66, am_jk, .int v2, .int o3, .int o4, am_jk, am_jk] [] (N, am_ts T, I1, L1, am_rs r) Q) (hE0 : ∀ (o3 : Int32) (o4 : Int32) (I1 : am_I) (L1 : am_J), E0 o3 o4 I1 L1 → am_E S 239 (d + 2) 0 0 380 [.ref 66, am_jk, .int v2, .int o3, .int o4, am_jk, am_jk] [] (N, am_ts T, I1, L1, am_rs r) Q) : am_E S 239 (d + 2) 0 0 248 [.ref 66, am_jk, .int v2, .int v3, .int v4, .int v5, am_jk] [] (N, am_ts T, I, L, am_rs r) Q := by
  unfold wb_239_248 at hw
  try dsimp only at hw
  refine am_E.run [272] 2000 (show (if (v3 - 1) < 0 ∨ 400 ≤ Int32.toNatClampNeg (v3 - 1) then False else (if v3 < 0 ∨ 400 ≤ Int32.toNatClampNeg v3 then False else (am_E S 239 (d + 2) 0 0 272 [.ref 66, am_jk, .int v2, .int v3, .int v4, .int v5, am_jk] [.long (L 86 (Int32.toNatClampNeg v3)), .long (L 86 (Int32.toNatClampNeg (v3 - 1))), .int v5, .ref 66, .int (v3 - 1), .ref 86] (N, am_ts T, I, L, am_rs r) Q))) from ?_)
  refine am_ifn hw.1 ?_
  replace hw := hw.2
  refine am_ifn hw.1 ?_
  replace hw := hw.2
  refine am_E.go ⟨am_kl_I N T L r _, s_240 hw (fun q1 I2 hk => ⟨q1, I2, rfl, rfl, hk⟩), ?_⟩
  intro v h9 hv
  obtain ⟨q1, I2, rfl, rfl, hw⟩ := hv
  try dsimp only at hw
  refine am_E.run [284, 304] 2000 (show (if (v3 - 1) < 0 ∨ 400 ≤ Int32.toNatClampNeg (v3 - 1) then False else (if (I2 66 38) = 0 then (am_E S 239 (d + 2) 0 0 284 [.ref 66, am_jk, .int v2, .int v3, .int v4, .int v5, am_jk] [.ref 66] (N, am_ts T, I2, (am_u L 86 (Int32.toNatClampNeg (v3 - 1)) q1), am_rs r) Q) else (am_E S 239 (d + 2) 0 0 304 [.ref 66, am_jk, .int v2, .int v3, .int v4, .int v5, am_jk] [.ref 66] (N, am_ts T, I2, (am_u L 86 (Int32.toNatClampNeg (v3 - 1)) q1), am_rs r) Q))) from ?_)
  refine am_ifn hw.1 ?_
  replace hw := hw.2
  by_cases hc : (I2 66 38) = 0
  · rw [if_pos hc] at hw ⊢
    refine am_E.run [298] 2000 (show (if (v3 - 1) < 0 ∨ 400 ≤ Int32.toNatClampNeg (v3 - 1) then False else (am_E S 239 (d + 2) 0 0 298 [.ref 66, am_jk, .int v2, .int v3, .int v4, .int v5, am_jk] [.long 1000000000, .long (-1000000000), .long ((am_u L 86 (Int32.toNatClampNeg (v3 - 1)) q1) 86 (Int32.toNatClampNeg (v3 - 1))), .ref 66] (N, am_ts T, I2, (am_u L 86 (Int32.toNatClampNeg (v3 - 1)) q1), am_rs r) Q)) from ?_)
    refine am_ifn hw.1 ?_
    replace hw := hw.2
    refine am_E.go ⟨fun v h9 => v = some (.int (f_182 ((am_u L 86 (Int32.toNatClampNeg (v3 - 1)) q1) 86 (Int32.toNatClampNeg (v3 - 1))) (-1000000000) 1000000000)) ∧ h9 = (N, am_ts T, I2, (am_u L 86 (Int32.toNatClampNeg (v3 - 1)) q1), am_rs r), s_182 ⟨rfl, rfl⟩, ?_⟩
    intro v h9 hv
    obtain ⟨rfl, rfl⟩ := hv
    refine am_E.run [304, 308] 2000 (show (if (f_182 ((am_u L 86 (Int32.toNatClampNeg (v3 - 1)) q1) 86 (Int32.toNatClampNeg (v3 - 1))) (-1000000000) 1000000000) = 0 then (am_E S 239 (d + 2) 0 0 304 [.ref 66, am_jk, .int v2, .int v3, .int v4, .int v5, am_jk] [.ref 66] (N, am_ts T, I2, (am_u L 86 (Int32.toNatClampNeg (v3 - 1)) q1), am_rs r) Q) else (am_E S 239 (d + 2) 0 0 308 [.ref 66, am_jk, .int v2, .int v3, .int v4, .int v5, am_jk] [.ref 66] (N, am_ts T, I2, (am_u L 86 (Int32.toNatClampNeg (v3 - 1)) q1), am_rs r) Q)) from ?_)
    by_cases hc : (f_182 ((am_u L 86 (Int32.toNatClampNeg (v3 - 1)) q1) 86 (Int32.toNatClampNeg (v3 - 1))) (-1000000000) 1000000000) = 0
    · rw [if_pos hc] at hw ⊢
      refine am_E.run [10] 2000 (show (am_E S 239 (d + 2) 0 0 10 [.ref 66, am_jk, .int v2, .int v3, .int v4, .int v5, am_jk] [] (N, am_ts T, (am_u I2 66 38 1), (am_u L 86 (Int32.toNatClampNeg (v3 - 1)) q1), am_rs r) Q) from ?_)
      exact am_E.junk (hB _ _ _ _ hw) (am_le.cons (am_le.cons (am_le.cons (am_le.cons (am_le.cons (am_le.jk (am_le.cons am_le.nil)))))))
    · rw [if_neg hc] at hw ⊢
      refine am_E.run [10] 2000 (show (am_E S 239 (d + 2) 0 0 10 [.ref 66, am_jk, .int v2, .int v3, .int v4, .int v5, am_jk] [] (N, am_ts T, (am_u I2 66 38 0), (am_u L 86 (Int32.toNatClampNeg (v3 - 1)) q1), am_rs r) Q) from ?_)
      exact am_E.junk (hB _ _ _ _ hw) (am_le.cons (am_le.cons (am_le.cons (am_le.cons (am_le.cons (am_le.jk (am_le.cons am_le.nil)))))))
  · rw [if_neg hc] at hw ⊢
    refine am_E.run [10] 2000 (show (am_E S 239 (d + 2) 0 0 10 [.ref 66, am_jk, .int v2, .int v3, .int v4, .int v5, am_jk] [] (N, am_ts T, (am_u I2 66 38 1), (am_u L 86 (Int32.toNatClampNeg (v3 - 1)) q1), am_rs r) Q) from ?_)
    exact am_E.junk (hB _ _ _ _ hw) (am_le.cons (am_le.cons (am_le.cons (am_le.cons (am_le.cons (am_le.jk (am_le.cons am_le.nil)))))))
def wb_239_95 (v2 : Int32) (v3 : Int32) (v4 : Int32) (v5 : Int32) (s0 : Int32) (I : am_I) (L : am_J) (B : Int32 → Int32 → am_I → am_J → Prop) (E0 : Int32 → Int32 → am_I → am_J → Prop) : Prop :=
  if (20 : Int32) ≤ v5 then
    if (28 : Int32) ≤ v5 then
      if v5 = 28 then
        ¬ ((v3 - 1) < 0 ∨ 400 ≤ Int32.toNatClampNeg (v3 - 1)) ∧
        ¬ ((v3 - 1) < 0 ∨ 400 ≤ Int32.toNatClampNeg (v3 - 1)) ∧
        B v3 (v4 + 1) I (am_u L 86 (Int32.toNatClampNeg (v3 - 1)) (1 - (L 86 (Int32.toNatClampNeg (v3 - 1)))))
      else
        ¬ ((v3 - 1) < 0 ∨ 400 ≤ Int32.toNatClampNeg (v3 - 1)) ∧
        if v5 = 29 then
          wb_239_363 v2 v3 (v4 + 1) s0 (L 86 (Int32.toNatClampNeg (v3 - 1))) 0 I L B E0
        else
          wb_239_363 v2 v3 (v4 + 1) s0 (L 86 (Int32.toNatClampNeg (v3 - 1))) 1 I L B E0
    else
      wb_239_248 v2 (v3 + (-1)) (v4 + 1) v5 I L B E0
  else
    if v5 = 0 then
      ¬ (v3 < 0 ∨ 400 ≤ Int32.toNatClampNeg v3) ∧
      B (v3 + 1) (v4 + 1) I (am_u L 86 (Int32.toNatClampNeg v3) (Int32.toInt64 s0))
    else
      if (I 66 20) = 0 then
        ¬ (v5 < 0 ∨ 13 ≤ Int32.toNatClampNeg v5) ∧
        ¬ (v3 < 0 ∨ 400 ≤ Int32.toNatClampNeg v3) ∧
        B (v3 + 1) (v4 + 1) I (am_u L 86 (Int32.toNatClampNeg v3) (L 84 (Int32.toNatClampNeg v5)))
      else
        if (6 : Int32) ≤ v5 then
          if v5 = 6 then
            if (f_192 s0 I) = 0 then
              ¬ (v3 < 0 ∨ 400 ≤ Int32.toNatClampNeg v3) ∧
              B (v3 + 1) (v4 + 1) I (am_u L 86 (Int32.toNatClampNeg v3) (Int32.toInt64 (-1)))
            else
              ¬ ((10 + s0) < 0 ∨ 5510 ≤ Int32.toNatClampNeg (10 + s0)) ∧
              ¬ (v3 < 0 ∨ 400 ≤ Int32.toNatClampNeg v3) ∧
              B (v3 + 1) (v4 + 1) I (am_u L 86 (Int32.toNatClampNeg v3) (Int32.toInt64 (I 68 (Int32.toNatClampNeg (10 + s0)))))
          else
            if (f_192 (s0 / 16) I) = 0 then
              ¬ (v3 < 0 ∨ 400 ≤ Int32.toNatClampNeg v3) ∧
              B (v3 + 1) (v4 + 1) I (am_u L 86 (Int32.toNatClampNeg v3) (-1))
            else
              ¬ ((18 + (s0 / 16)) < 0 ∨ 5510 ≤ Int32.toNatClampNeg (18 + (s0 / 16))) ∧
              ¬ (v3 < 0 ∨ 400 ≤ Int32.toNatClampNeg v3) ∧
              B (v3 + 1) (v4 + 1) I (am_u L 86 (Int32.toNatClampNeg v3) (Int32.toInt64 (((I 68 (Int32.toNatClampNeg (18 + (s0 / 16)))) >>> ((s0 - s0 / 16 * 16) &&& 31)) &&& 1)))
        else
          ¬ (v5 < 0 ∨ 13 ≤ Int32.toNatClampNeg v5) ∧
          ¬ (v3 < 0 ∨ 400 ≤ Int32.toNatClampNeg v3) ∧
          B (v3 + 1) (v4 + 1) I (am_u L 86 (Int32.toNatClampNeg v3) (L 85 (Int32.toNatClampNeg v5)))
set_option maxHeartbeats 6000000 in
set_option maxRecDepth 100000 in
theorem sb_239_95 {S : am_S} {d : Nat} {N : Nat} {T : Nat → Nat × Nat} {I : am_I} {L : am_J} {r : Nat → Nat → Option Nat} {Q : am_Q} {v2 : Int32} {v3 : Int32} {v4 : Int32} {v5 : Int32} {s0 : Int32} {B : Int32 → Int32 → am_I → am_J → Prop} {E0 : Int32 → Int32 → am_I → am_J → Prop} (hw : wb_239_95 v2 v3 v4 v5 s0 I L B E0) (hB : ∀ (o3 : Int32) (o4 : Int32) (I1 : am_I) (L1 : am_J), B o3 o4 I1 L1 → am_E S 239 (d + 2) 0 0 10 [.ref 66, am_jk, .int v2, .int o3, .int o4, am_jk, am_jk] [] (N, am_ts T, I1, L1, am_rs r) Q) (hE0 : ∀ (o3 : Int32) (o4 : Int32) (I1 : am_I) (L1 : am_J), E0 o3 o4 I1 L1 → am_E S 239 (d + 2) 0 0 380 [.ref 66, am_jk, .int v2, .int o3, .int o4, am_jk, am_jk] [] (N, am_ts T, I1, L1, am_rs r) Q) : am_E S 239 (d + 2) 0 0 95 [.ref 66, am_jk, .int v2, .int v3, .int v4, .int v5, am_jk] [.int s0] (N, am_ts T, I, L, am_rs r) Q := by
  unfold wb_239_95 at hw
  try dsimp only at hw
  refine am_E.run [107, 238] 2000 (show (if (20 : Int32) ≤ v5 then (am_E S 239 (d + 2) 0 0 238 [.ref 66, am_jk, .int v2, .int v3, .int (v4 + 1), .int v5, .int s0] [] (N, am_ts T, I, L, am_rs r) Q) else (am_E S 239 (d + 2) 0 0 107 [.ref 66, am_jk, .int v2, .int v3, .int (v4 + 1), .int v5, .int s0] [] (N, am_ts T, I, L, am_rs r) Q)) from ?_)
  by_cases hc : (20 : Int32) ≤ v5
  · rw [if_pos hc] at hw ⊢
    refine am_E.run [245, 315] 2000 (show (if (28 : Int32) ≤ v5 then (am_E S 239 (d + 2) 0 0 315 [.ref 66, am_jk, .int v2, .int v3, .int (v4 + 1), .int v5, .int s0] [] (N, am_ts T, I, L, am_rs r) Q) else (am_E S 239 (d + 2) 0 0 245 [.ref 66, am_jk, .int v2, .int v3, .int (v4 + 1), .int v5, .int s0] [] (N, am_ts T, I, L, am_rs r) Q)) from ?_)
    by_cases hc : (28 : Int32) ≤ v5
    · rw [if_pos hc] at hw ⊢
      refine am_E.run [322, 343] 2000 (show (if v5 = 28 then (am_E S 239 (d + 2) 0 0 322 [.ref 66, am_jk, .int v2, .int v3, .int (v4 + 1), .int v5, .int s0] [] (N, am_ts T, I, L, am_rs r) Q) else (am_E S 239 (d + 2) 0 0 343 [.ref 66, am_jk, .int v2, .int v3, .int (v4 + 1), .int v5, .int s0] [] (N, am_ts T, I, L, am_rs r) Q)) from ?_)
      by_cases hc : v5 = 28
      · rw [if_pos hc] at hw ⊢
        refine am_E.run [10] 2000 (show (if (v3 - 1) < 0 ∨ 400 ≤ Int32.toNatClampNeg (v3 - 1) then False else (if (v3 - 1) < 0 ∨ 400 ≤ Int32.toNatClampNeg (v3 - 1) then False else (am_E S 239 (d + 2) 0 0 10 [.ref 66, am_jk, .int v2, .int v3, .int (v4 + 1), .int v5, .int s0] [] (N, am_ts T, I, (am_u L 86 (Int32.toNatClampNeg (v3 - 1)) (1 - (L 86 (Int32.toNatClampNeg (v3 - 1))))), am_rs r) Q))) from ?_)
        refine am_ifn hw.1 ?_
        replace hw := hw.2
        refine am_ifn hw.1 ?_
        replace hw := hw.2
        exact am_E.junk (hB _ _ _ _ hw) (am_le.cons (am_le.cons (am_le.cons (am_le.cons (am_le.cons (am_le.jk (am_le.jk am_le.nil)))))))
      · rw [if_neg hc] at hw ⊢
        refine am_E.run [358, 362] 2000 (show (if (v3 - 1) < 0 ∨ 400 ≤ Int32.toNatClampNeg (v3 - 1) then False else (if v5 = 29 then (am_E S 239 (d + 2) 0 0 358 [.ref 66, am_jk, .int v2, .int v3, .int (v4 + 1), .int v5, .int s0] [.long (L 86 (Int32.toNatClampNeg (v3 - 1)))] (N, am_ts T, I, L, am_rs r) Q) else (am_E S 239 (d + 2) 0 0 362 [.ref 66, am_jk, .int v2, .int v3, .int (v4 + 1), .int v5, .int s0] [.long (L 86 (Int32.toNatClampNeg (v3 - 1)))] (N, am_ts T, I, L, am_rs r) Q))) from ?_)
        refine am_ifn hw.1 ?_
        replace hw := hw.2
        by_cases hc : v5 = 29
        · rw [if_pos hc] at hw ⊢
          refine am_E.run [363] 2000 (show (am_E S 239 (d + 2) 0 0 363 [.ref 66, am_jk, .int v2, .int v3, .int (v4 + 1), .int v5, .int s0] [.long 0, .long (L 86 (Int32.toNatClampNeg (v3 - 1)))] (N, am_ts T, I, L, am_rs r) Q) from ?_)
          exact am_E.junk (sb_239_363 hw hB hE0) (am_le.cons (am_le.cons (am_le.cons (am_le.cons (am_le.cons (am_le.jk (am_le.cons am_le.nil)))))))
        · rw [if_neg hc] at hw ⊢
          refine am_E.run [363] 2000 (show (am_E S 239 (d + 2) 0 0 363 [.ref 66, am_jk, .int v2, .int v3, .int (v4 + 1), .int v5, .int s0] [.long 1, .long (L 86 (Int32.toNatClampNeg (v3 - 1)))] (N, am_ts T, I, L, am_rs r) Q) from ?_)
          exact am_E.junk (sb_239_363 hw hB hE0) (am_le.cons (am_le.cons (am_le.cons (am_le.cons (am_le.cons (am_le.jk (am_le.cons am_le.nil)))))))
    · rw [if_neg hc] at hw ⊢
      refine am_E.run [248] 2000 (show (am_E S 239 (d + 2) 0 0 248 [.ref 66, am_jk, .int v2, .int (v3 + (-1)), .int (v4 + 1), .int v5, .int s0] [] (N, am_ts T, I, L, am_rs r) Q) from ?_)
      exact am_E.junk (sb_239_248 hw hB hE0) (am_le.cons (am_le.cons (am_le.cons (am_le.cons (am_le.cons (am_le.cons (am_le.jk am_le.nil)))))))
  · rw [if_neg hc] at hw ⊢
    refine am_E.run [117, 123] 2000 (show (if v5 = 0 then (am_E S 239 (d + 2) 0 0 117 [.ref 66, am_jk, .int v2, .int v3, .int (v4 + 1), .int v5, .int s0] [.int v3, .ref 86] (N, am_ts T, I, L, am_rs r) Q) else (am_E S 239 (d + 2) 0 0 123 [.ref 66, am_jk, .int v2, .int v3, .int (v4 + 1), .int v5, .int s0] [.int v3, .ref 86] (N, am_ts T, I, L, am_rs r) Q)) from ?_)
    by_cases hc : v5 = 0
    · rw [if_pos hc] at hw ⊢
      refine am_E.run [10] 2000 (show (if v3 < 0 ∨ 400 ≤ Int32.toNatClampNeg v3 then False else (am_E S 239 (d + 2) 0 0 10 [.ref 66, am_jk, .int v2, .int (v3 + 1), .int (v4 + 1), .int v5, .int s0] [] (N, am_ts T, I, (am_u L 86 (Int32.toNatClampNeg v3) (Int32.toInt64 s0)), am_rs r) Q)) from ?_)
      refine am_ifn hw.1 ?_
      replace hw := hw.2
      exact am_E.junk (hB _ _ _ _ hw) (am_le.cons (am_le.cons (am_le.cons (am_le.cons (am_le.cons (am_le.jk (am_le.jk am_le.nil)))))))
    · rw [if_neg hc] at hw ⊢
      refine am_E.run [130, 140] 2000 (show (if (I 66 20) = 0 then (am_E S 239 (d + 2) 0 0 130 [.ref 66, am_jk, .int v2, .int v3, .int (v4 + 1), .int v5, .int s0] [.int v3, .ref 86] (N, am_ts T, I, L, am_rs r) Q) else (am_E S 239 (d + 2) 0 0 140 [.ref 66, am_jk, .int v2, .int v3, .int (v4 + 1), .int v5, .int s0] [.int v3, .ref 86] (N, am_ts T, I, L, am_rs r) Q)) from ?_)
      by_cases hc : (I 66 20) = 0
      · rw [if_pos hc] at hw ⊢
        refine am_E.run [10] 2000 (show (if v5 < 0 ∨ 13 ≤ Int32.toNatClampNeg v5 then False else (if v3 < 0 ∨ 400 ≤ Int32.toNatClampNeg v3 then False else (am_E S 239 (d + 2) 0 0 10 [.ref 66, am_jk, .int v2, .int (v3 + 1), .int (v4 + 1), .int v5, .int s0] [] (N, am_ts T, I, (am_u L 86 (Int32.toNatClampNeg v3) (L 84 (Int32.toNatClampNeg v5))), am_rs r) Q))) from ?_)
        refine am_ifn hw.1 ?_
        replace hw := hw.2
        refine am_ifn hw.1 ?_
        replace hw := hw.2
        exact am_E.junk (hB _ _ _ _ hw) (am_le.cons (am_le.cons (am_le.cons (am_le.cons (am_le.cons (am_le.jk (am_le.jk am_le.nil)))))))
      · rw [if_neg hc] at hw ⊢
        refine am_E.run [147, 157] 2000 (show (if (6 : Int32) ≤ v5 then (am_E S 239 (d + 2) 0 0 157 [.ref 66, am_jk, .int v2, .int v3, .int (v4 + 1), .int v5, .int s0] [.int v3, .ref 86] (N, am_ts T, I, L, am_rs r) Q) else (am_E S 239 (d + 2) 0 0 147 [.ref 66, am_jk, .int v2, .int v3, .int (v4 + 1), .int v5, .int s0] [.int v3, .ref 86] (N, am_ts T, I, L, am_rs r) Q)) from ?_)
        by_cases hc : (6 : Int32) ≤ v5
        · rw [if_pos hc] at hw ⊢
          refine am_E.run [164, 191] 2000 (show (if v5 = 6 then (am_E S 239 (d + 2) 0 0 164 [.ref 66, am_jk, .int v2, .int v3, .int (v4 + 1), .int v5, .int s0] [.int v3, .ref 86] (N, am_ts T, I, L, am_rs r) Q) else (am_E S 239 (d + 2) 0 0 191 [.ref 66, am_jk, .int v2, .int v3, .int (v4 + 1), .int v5, .int s0] [.int v3, .ref 86] (N, am_ts T, I, L, am_rs r) Q)) from ?_)
          by_cases hc : v5 = 6
          · rw [if_pos hc] at hw ⊢
            refine am_E.run [167] 2000 (show (am_E S 239 (d + 2) 0 0 167 [.ref 66, am_jk, .int v2, .int v3, .int (v4 + 1), .int v5, .int s0] [.int s0, .ref 66, .int v3, .ref 86] (N, am_ts T, I, L, am_rs r) Q) from ?_)
            refine am_E.go ⟨fun v h9 => v = some (.int (f_192 s0 I)) ∧ h9 = (N, am_ts T, I, L, am_rs r), s_192 ⟨rfl, rfl⟩, ?_⟩
            intro v h9 hv
            obtain ⟨rfl, rfl⟩ := hv
            refine am_E.run [173, 186] 2000 (show (if (f_192 s0 I) = 0 then (am_E S 239 (d + 2) 0 0 186 [.ref 66, am_jk, .int v2, .int v3, .int (v4 + 1), .int v5, .int s0] [.int v3, .ref 86] (N, am_ts T, I, L, am_rs r) Q) else (am_E S 239 (d + 2) 0 0 173 [.ref 66, am_jk, .int v2, .int v3, .int (v4 + 1), .int v5, .int s0] [.int v3, .ref 86] (N, am_ts T, I, L, am_rs r) Q)) from ?_)
            by_cases hc : (f_192 s0 I) = 0
            · rw [if_pos hc] at hw ⊢
              refine am_E.run [10] 2000 (show (if v3 < 0 ∨ 400 ≤ Int32.toNatClampNeg v3 then False else (am_E S 239 (d + 2) 0 0 10 [.ref 66, am_jk, .int v2, .int (v3 + 1), .int (v4 + 1), .int v5, .int s0] [] (N, am_ts T, I, (am_u L 86 (Int32.toNatClampNeg v3) (Int32.toInt64 (-1))), am_rs r) Q)) from ?_)
              refine am_ifn hw.1 ?_
              replace hw := hw.2
              exact am_E.junk (hB _ _ _ _ hw) (am_le.cons (am_le.cons (am_le.cons (am_le.cons (am_le.cons (am_le.jk (am_le.jk am_le.nil)))))))
            · rw [if_neg hc] at hw ⊢
              refine am_E.run [10] 2000 (show (if (10 + s0) < 0 ∨ 5510 ≤ Int32.toNatClampNeg (10 + s0) then False else (if v3 < 0 ∨ 400 ≤ Int32.toNatClampNeg v3 then False else (am_E S 239 (d + 2) 0 0 10 [.ref 66, am_jk, .int v2, .int (v3 + 1), .int (v4 + 1), .int v5, .int s0] [] (N, am_ts T, I, (am_u L 86 (Int32.toNatClampNeg v3) (Int32.toInt64 (I 68 (Int32.toNatClampNeg (10 + s0))))), am_rs r) Q))) from ?_)
              refine am_ifn hw.1 ?_
              replace hw := hw.2
              refine am_ifn hw.1 ?_
              replace hw := hw.2
              exact am_E.junk (hB _ _ _ _ hw) (am_le.cons (am_le.cons (am_le.cons (am_le.cons (am_le.cons (am_le.jk (am_le.jk am_le.nil)))))))
          · rw [if_neg hc] at hw ⊢
            refine am_E.run [197] 2000 (show (am_E S 239 (d + 2) 0 0 197 [.ref 66, am_jk, .int v2, .int v3, .int (v4 + 1), .int v5, .int s0] [.int (s0 / 16), .ref 66, .int v3, .ref 86] (N, am_ts T, I, L, am_rs r) Q) from ?_)
            refine am_E.go ⟨fun v h9 => v = some (.int (f_192 (s0 / 16) I)) ∧ h9 = (N, am_ts T, I, L, am_rs r), s_192 ⟨rfl, rfl⟩, ?_⟩
            intro v h9 hv
            obtain ⟨rfl, rfl⟩ := hv
            refine am_E.run [203, 209] 2000 (show (if (f_192 (s0 / 16) I) = 0 then (am_E S 239 (d + 2) 0 0 203 [.ref 66, am_jk, .int v2, .int v3, .int (v4 + 1), .int v5, .int s0] [.int v3, .ref 86] (N, am_ts T, I, L, am_rs r) Q) else (am_E S 239 (d + 2) 0 0 209 [.ref 66, am_jk, .int v2, .int v3, .int (v4 + 1), .int v5, .int s0] [.int v3, .ref 86] (N, am_ts T, I, L, am_rs r) Q)) from ?_)
            by_cases hc : (f_192 (s0 / 16) I) = 0
            · rw [if_pos hc] at hw ⊢
              refine am_E.run [10] 2000 (show (if v3 < 0 ∨ 400 ≤ Int32.toNatClampNeg v3 then False else (am_E S 239 (d + 2) 0 0 10 [.ref 66, am_jk, .int v2, .int (v3 + 1), .int (v4 + 1), .int v5, .int s0] [] (N, am_ts T, I, (am_u L 86 (Int32.toNatClampNeg v3) (-1)), am_rs r) Q)) from ?_)
              refine am_ifn hw.1 ?_
              replace hw := hw.2
              exact am_E.junk (hB _ _ _ _ hw) (am_le.cons (am_le.cons (am_le.cons (am_le.cons (am_le.cons (am_le.jk (am_le.jk am_le.nil)))))))
            · rw [if_neg hc] at hw ⊢
              refine am_E.run [10] 2000 (show (if (18 + (s0 / 16)) < 0 ∨ 5510 ≤ Int32.toNatClampNeg (18 + (s0 / 16)) then False else (if v3 < 0 ∨ 400 ≤ Int32.toNatClampNeg v3 then False else (am_E S 239 (d + 2) 0 0 10 [.ref 66, am_jk, .int v2, .int (v3 + 1), .int (v4 + 1), .int v5, .int s0] [] (N, am_ts T, I, (am_u L 86 (Int32.toNatClampNeg v3) (Int32.toInt64 (((I 68 (Int32.toNatClampNeg (18 + (s0 / 16)))) >>> ((s0 - s0 / 16 * 16) &&& 31)) &&& 1))), am_rs r) Q))) from ?_)
              refine am_ifn hw.1 ?_
              replace hw := hw.2
              refine am_ifn hw.1 ?_
              replace hw := hw.2
              exact am_E.junk (hB _ _ _ _ hw) (am_le.cons (am_le.cons (am_le.cons (am_le.cons (am_le.cons (am_le.jk (am_le.jk am_le.nil)))))))
        · rw [if_neg hc] at hw ⊢
          refine am_E.run [10] 2000 (show (if v5 < 0 ∨ 13 ≤ Int32.toNatClampNeg v5 then False else (if v3 < 0 ∨ 400 ≤ Int32.toNatClampNeg v3 then False else (am_E S 239 (d + 2) 0 0 10 [.ref 66, am_jk, .int v2, .int (v3 + 1), .int (v4 + 1), .int v5, .int s0] [] (N, am_ts T, I, (am_u L 86 (Int32.toNatClampNeg v3) (L 85 (Int32.toNatClampNeg v5))), am_rs r) Q))) from ?_)
          refine am_ifn hw.1 ?_
          replace hw := hw.2
          refine am_ifn hw.1 ?_
          replace hw := hw.2
          exact am_E.junk (hB _ _ _ _ hw) (am_le.cons (am_le.cons (am_le.cons (am_le.cons (am_le.cons (am_le.jk (am_le.jk am_le.nil)))))))
def wb_239_57 (v2 : Int32) (v3 : Int32) (v4 : Int32) (s0 : Int32) (I : am_I) (L : am_J) (B : Int32 → Int32 → am_I → am_J → Prop) (E0 : Int32 → Int32 → am_I → am_J → Prop) : Prop :=
  if (I 66 20) = 0 then
    ¬ (((((I 66 34) + 98) + (2 * v4)) + 1) < 0 ∨ 5510 ≤ Int32.toNatClampNeg ((((I 66 34) + 98) + (2 * v4)) + 1)) ∧
    wb_239_95 v2 v3 v4 s0 (I 68 (Int32.toNatClampNeg ((((I 66 34) + 98) + (2 * v4)) + 1))) I L B E0
  else
    ¬ (v4 < 0 ∨ 400 ≤ Int32.toNatClampNeg v4) ∧
    wb_239_95 v2 v3 v4 s0 (I 78 (Int32.toNatClampNeg v4)) I L B E0
set_option maxHeartbeats 6000000 in
set_option maxRecDepth 100000 in
theorem sb_239_57 {S : am_S} {d : Nat} {N : Nat} {T : Nat → Nat × Nat} {I : am_I} {L : am_J} {r : Nat → Nat → Option Nat} {Q : am_Q} {v2 : Int32} {v3 : Int32} {v4 : Int32} {s0 : Int32} {B : Int32 → Int32 → am_I → am_J → Prop} {E0 : Int32 → Int32 → am_I → am_J → Prop} (hw : wb_239_57 v2 v3 v4 s0 I L B E0) (hB : ∀ (o3 : Int32) (o4 : Int32) (I1 : am_I) (L1 : am_J), B o3 o4 I1 L1 → am_E S 239 (d + 2) 0 0 10 [.ref 66, am_jk, .int v2, .int o3, .int o4, am_jk, am_jk] [] (N, am_ts T, I1, L1, am_rs r) Q) (hE0 : ∀ (o3 : Int32) (o4 : Int32) (I1 : am_I) (L1 : am_J), E0 o3 o4 I1 L1 → am_E S 239 (d + 2) 0 0 380 [.ref 66, am_jk, .int v2, .int o3, .int o4, am_jk, am_jk] [] (N, am_ts T, I1, L1, am_rs r) Q) : am_E S 239 (d + 2) 0 0 57 [.ref 66, am_jk, .int v2, .int v3, .int v4, am_jk, am_jk] [.int s0] (N, am_ts T, I, L, am_rs r) Q := by
  unfold wb_239_57 at hw
  try dsimp only at hw
  refine am_E.run [66, 76] 2000 (show (if (I 66 20) = 0 then (am_E S 239 (d + 2) 0 0 76 [.ref 66, am_jk, .int v2, .int v3, .int v4, .int s0, am_jk] [] (N, am_ts T, I, L, am_rs r) Q) else (am_E S 239 (d + 2) 0 0 66 [.ref 66, am_jk, .int v2, .int v3, .int v4, .int s0, am_jk] [] (N, am_ts T, I, L, am_rs r) Q)) from ?_)
  by_cases hc : (I 66 20) = 0
  · rw [if_pos hc] at hw ⊢
    refine am_E.run [95] 2000 (show (if ((((I 66 34) + 98) + (2 * v4)) + 1) < 0 ∨ 5510 ≤ Int32.toNatClampNeg ((((I 66 34) + 98) + (2 * v4)) + 1) then False else (am_E S 239 (d + 2) 0 0 95 [.ref 66, am_jk, .int v2, .int v3, .int v4, .int s0, am_jk] [.int (I 68 (Int32.toNatClampNeg ((((I 66 34) + 98) + (2 * v4)) + 1)))] (N, am_ts T, I, L, am_rs r) Q)) from ?_)
    refine am_ifn hw.1 ?_
    replace hw := hw.2
    exact sb_239_95 hw hB hE0
  · rw [if_neg hc] at hw ⊢
    refine am_E.run [95] 2000 (show (if v4 < 0 ∨ 400 ≤ Int32.toNatClampNeg v4 then False else (am_E S 239 (d + 2) 0 0 95 [.ref 66, am_jk, .int v2, .int v3, .int v4, .int s0, am_jk] [.int (I 78 (Int32.toNatClampNeg v4))] (N, am_ts T, I, L, am_rs r) Q)) from ?_)
    refine am_ifn hw.1 ?_
    replace hw := hw.2
    exact sb_239_95 hw hB hE0
def lw_239_10 : Nat → Int32 → Int32 → Int32 → am_I → am_J → (Int32 → Int32 → am_I → am_J → Prop) → Prop
  | 0, _, _, _, _, _, _ => False
  | n + 1, v2, v3, v4, I, L, E0 =>
    if v2 ≤ v4 then
      E0 v3 v4 I L
    else
      if (I 66 38) = 0 then
        if (I 66 20) = 0 then
          ¬ ((((I 66 34) + 98) + (2 * v4)) < 0 ∨ 5510 ≤ Int32.toNatClampNeg (((I 66 34) + 98) + (2 * v4))) ∧
          wb_239_57 v2 v3 v4 (I 68 (Int32.toNatClampNeg (((I 66 34) + 98) + (2 * v4)))) I L (fun v3 v4 I L => lw_239_10 n v2 v3 v4 I L E0) E0
        else
          ¬ (v4 < 0 ∨ 400 ≤ Int32.toNatClampNeg v4) ∧
          wb_239_57 v2 v3 v4 (I 77 (Int32.toNatClampNeg v4)) I L (fun v3 v4 I L => lw_239_10 n v2 v3 v4 I L E0) E0
      else
        E0 v3 v4 I L
set_option maxHeartbeats 6000000 in
set_option maxRecDepth 100000 in
theorem sl_239_10 {S : am_S} {d : Nat} {Q : am_Q} {N : Nat} {T : Nat → Nat × Nat} {r : Nat → Nat → Option Nat} {E0 : Int32 → Int32 → am_I → am_J → Prop} : ∀ (n : Nat) {v2 : Int32} {v3 : Int32} {v4 : Int32} {I : am_I} {L : am_J}, lw_239_10 n v2 v3 v4 I L E0 → (∀ (o3 : Int32) (o4 : Int32) (I1 : am_I) (L1 : am_J), E0 o3 o4 I1 L1 → am_E S 239 (d + 2) 0 0 380 [.ref 66, am_jk, .int v2, .int o3, .int o4, am_jk, am_jk] [] (N, am_ts T, I1, L1, am_rs r) Q) → am_E S 239 (d + 2) 0 0 10 [.ref 66, am_jk, .int v2, .int v3, .int v4, am_jk, am_jk] [] (N, am_ts T, I, L, am_rs r) Q
  | 0, _, _, _, _, _, hw, _ => hw.elim
  | n + 1, v2, v3, v4, I, L, hw, hE0 => by
    have ih := @sl_239_10 S d Q N T r E0 n
    unfold lw_239_10 at hw
    try dsimp only at hw
    refine am_E.run [16, 380] 2000 (show (if v2 ≤ v4 then (am_E S 239 (d + 2) 0 0 380 [.ref 66, am_jk, .int v2, .int v3, .int v4, am_jk, am_jk] [] (N, am_ts T, I, L, am_rs r) Q) else (am_E S 239 (d + 2) 0 0 16 [.ref 66, am_jk, .int v2, .int v3, .int v4, am_jk, am_jk] [] (N, am_ts T, I, L, am_rs r) Q)) from ?_)
    by_cases hc : v2 ≤ v4
    · rw [if_pos hc] at hw ⊢
      show (am_E S 239 (d + 2) 0 0 380 [.ref 66, am_jk, .int v2, .int v3, .int v4, am_jk, am_jk] [] (N, am_ts T, I, L, am_rs r) Q)
      exact hE0 _ _ _ _ hw
    · rw [if_neg hc] at hw ⊢
      refine am_E.run [23, 380] 2000 (show (if (I 66 38) = 0 then (am_E S 239 (d + 2) 0 0 23 [.ref 66, am_jk, .int v2, .int v3, .int v4, am_jk, am_jk] [] (N, am_ts T, I, L, am_rs r) Q) else (am_E S 239 (d + 2) 0 0 380 [.ref 66, am_jk, .int v2, .int v3, .int v4, am_jk, am_jk] [] (N, am_ts T, I, L, am_rs r) Q)) from ?_)
      by_cases hc : (I 66 38) = 0
      · rw [if_pos hc] at hw ⊢
        refine am_E.run [30, 40] 2000 (show (if (I 66 20) = 0 then (am_E S 239 (d + 2) 0 0 40 [.ref 66, am_jk, .int v2, .int v3, .int v4, am_jk, am_jk] [] (N, am_ts T, I, L, am_rs r) Q) else (am_E S 239 (d + 2) 0 0 30 [.ref 66, am_jk, .int v2, .int v3, .int v4, am_jk, am_jk] [] (N, am_ts T, I, L, am_rs r) Q)) from ?_)
        by_cases hc : (I 66 20) = 0
        · rw [if_pos hc] at hw ⊢
          refine am_E.run [57] 2000 (show (if (((I 66 34) + 98) + (2 * v4)) < 0 ∨ 5510 ≤ Int32.toNatClampNeg (((I 66 34) + 98) + (2 * v4)) then False else (am_E S 239 (d + 2) 0 0 57 [.ref 66, am_jk, .int v2, .int v3, .int v4, am_jk, am_jk] [.int (I 68 (Int32.toNatClampNeg (((I 66 34) + 98) + (2 * v4))))] (N, am_ts T, I, L, am_rs r) Q)) from ?_)
          refine am_ifn hw.1 ?_
          replace hw := hw.2
          exact sb_239_57 hw (fun _ _ _ _ hw => ih hw hE0) hE0
        · rw [if_neg hc] at hw ⊢
          refine am_E.run [57] 2000 (show (if v4 < 0 ∨ 400 ≤ Int32.toNatClampNeg v4 then False else (am_E S 239 (d + 2) 0 0 57 [.ref 66, am_jk, .int v2, .int v3, .int v4, am_jk, am_jk] [.int (I 77 (Int32.toNatClampNeg v4))] (N, am_ts T, I, L, am_rs r) Q)) from ?_)
          refine am_ifn hw.1 ?_
          replace hw := hw.2
          exact sb_239_57 hw (fun _ _ _ _ hw => ih hw hE0) hE0
      · rw [if_neg hc] at hw ⊢
        show (am_E S 239 (d + 2) 0 0 380 [.ref 66, am_jk, .int v2, .int v3, .int v4, am_jk, am_jk] [] (N, am_ts T, I, L, am_rs r) Q)
        exact hE0 _ _ _ _ hw
def wb_239_380 (v3 : Int32) (I : am_I) (L : am_J) (K : am_I → am_J → Prop) : Prop :=
  if v3 ≤ 0 then
    K I (am_u L 66 39 0)
  else
    K I (am_u L 66 39 (L 86 0))
set_option maxHeartbeats 6000000 in
set_option maxRecDepth 100000 in
theorem sb_239_380 {S : am_S} {d : Nat} {N : Nat} {T : Nat → Nat × Nat} {I : am_I} {L : am_J} {r : Nat → Nat → Option Nat} {Q : am_Q} {v3 : Int32} {K : am_I → am_J → Prop} (hw : wb_239_380 v3 I L K) (hK : ∀ (I1 : am_I) (L1 : am_J), K I1 L1 → Q (none) (N, am_ts T, I1, L1, am_rs r)) : am_E S 239 (d + 2) 0 0 380 [.ref 66, am_jk, am_jk, .int v3, am_jk, am_jk, am_jk] [] (N, am_ts T, I, L, am_rs r) Q := by
  unfold wb_239_380 at hw
  try dsimp only at hw
  refine am_E.run [385, 394] 2000 (show (if v3 ≤ 0 then (am_E S 239 (d + 2) 0 0 394 [.ref 66, am_jk, am_jk, .int v3, am_jk, am_jk, am_jk] [.ref 66] (N, am_ts T, I, L, am_rs r) Q) else (am_E S 239 (d + 2) 0 0 385 [.ref 66, am_jk, am_jk, .int v3, am_jk, am_jk, am_jk] [.ref 66] (N, am_ts T, I, L, am_rs r) Q)) from ?_)
  by_cases hc : v3 ≤ 0
  · rw [if_pos hc] at hw ⊢
    refine am_E.run [] 2000 (show (True ∧ Q (none) (N, am_ts T, I, (am_u L 66 39 0), am_rs r)) from ?_)
    exact ⟨trivial, hK _ _ hw⟩
  · rw [if_neg hc] at hw ⊢
    refine am_E.run [] 2000 (show (True ∧ Q (none) (N, am_ts T, I, (am_u L 66 39 (L 86 0)), am_rs r)) from ?_)
    exact ⟨trivial, hK _ _ hw⟩
/-- KeyKeepersModel.reckonAll(II)V -/
def w_239 (x0 : Int32) (x1 : Int32) (I : am_I) (L : am_J) (K : am_I → am_J → Prop) : Prop :=
  ∃ n10, lw_239_10 n10 x1 0 x0 (am_u I 66 38 0) L (fun o3 o4 I5 L6 =>
    wb_239_380 o3 I5 L6 K)
set_option maxHeartbeats 6000000 in
set_option maxRecDepth 100000 in
theorem s_239 {S : am_S} {d : Nat} {N : Nat} {T : Nat → Nat × Nat} {I : am_I} {L : am_J} {r : Nat → Nat → Option Nat} {Q : am_Q} {x0 : Int32} {x1 : Int32} {K : am_I → am_J → Prop} (hw : w_239 x0 x1 I L K) (hK : ∀ (I1 : am_I) (L1 : am_J), K I1 L1 → Q (none) (N, am_ts T, I1, L1, am_rs r)) : am_E S 239 (d + 2) 0 0 0 [.ref 66, .int x0, .int x1, am_jk, am_jk, am_jk, am_jk] [] (N, am_ts T, I, L, am_rs r) Q := by
  unfold w_239 at hw
  try dsimp only at hw
  refine am_E.run [10] 2000 (show (am_E S 239 (d + 2) 0 0 10 [.ref 66, .int x0, .int x1, .int 0, .int x0, am_jk, am_jk] [] (N, am_ts T, (am_u I 66 38 0), L, am_rs r) Q) from ?_)
  obtain ⟨n10, hw⟩ := hw
  refine am_E.junk (lo := [.ref 66, am_jk, .int x1, .int 0, .int x0, am_jk, am_jk]) ?_ (am_le.cons (am_le.jk (am_le.cons (am_le.cons (am_le.cons (am_le.cons (am_le.cons am_le.nil)))))))
  refine sl_239_10 n10 hw (fun o3 o4 I5 L6 hw => ?_)
  · try dsimp only at hw
    show (am_E S 239 (d + 2) 0 0 380 [.ref 66, am_jk, .int x1, .int o3, .int o4, am_jk, am_jk] [] (N, am_ts T, I5, L6, am_rs r) Q)
    exact am_E.junk (sb_239_380 hw hK) (am_le.cons (am_le.cons (am_le.jk (am_le.cons (am_le.jk (am_le.cons (am_le.cons am_le.nil)))))))
