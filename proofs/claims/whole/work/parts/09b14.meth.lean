/-- the readers of SUMS and TESTS, which call each other -/
def wg : Nat → Nat → Int32 → am_I → (Int32 → am_I → Prop) → Prop
  | 0, _, _, _, _ => False
  | n + 1, y, o, I, K =>
    if y = 59 then w_59 (wg n) o I K else if y = 60 then w_60 (wg n) o I K else if y = 61 then w_61 (wg n) o I K else if y = 68 then w_68 (wg n) o I K else if y = 69 then w_69 (wg n) o I K else if y = 70 then w_70 (wg n) o I K else False
theorem sg {S : am_S} {d : Nat} : ∀ n : Nat, (∀ (N : Nat) (T : Nat → Nat × Nat) (L : am_J) (r : Nat → Nat → Option Nat) (o : Int32) (I : am_I) (K : Int32 → am_I → Prop) (Q : am_Q), wg n 59 o I K → (∀ q I, K q I → Q (some (.int q)) (N, am_ts T, I, L, am_rs r)) → am_E S 59 (d + n + 3) 0 0 0 [.ref 14, .int o, am_jk, am_jk] [] (N, am_ts T, I, L, am_rs r) Q) ∧ (∀ (N : Nat) (T : Nat → Nat × Nat) (L : am_J) (r : Nat → Nat → Option Nat) (o : Int32) (I : am_I) (K : Int32 → am_I → Prop) (Q : am_Q), wg n 60 o I K → (∀ q I, K q I → Q (some (.int q)) (N, am_ts T, I, L, am_rs r)) → am_E S 60 (d + n + 3) 0 0 0 [.ref 14, .int o, am_jk, am_jk] [] (N, am_ts T, I, L, am_rs r) Q) ∧ (∀ (N : Nat) (T : Nat → Nat × Nat) (L : am_J) (r : Nat → Nat → Option Nat) (o : Int32) (I : am_I) (K : Int32 → am_I → Prop) (Q : am_Q), wg n 61 o I K → (∀ q I, K q I → Q (some (.int q)) (N, am_ts T, I, L, am_rs r)) → am_E S 61 (d + n + 3) 0 0 0 [.ref 14, .int o, am_jk] [] (N, am_ts T, I, L, am_rs r) Q) ∧ (∀ (N : Nat) (T : Nat → Nat × Nat) (L : am_J) (r : Nat → Nat → Option Nat) (o : Int32) (I : am_I) (K : Int32 → am_I → Prop) (Q : am_Q), wg n 68 o I K → (∀ q I, K q I → Q (some (.int q)) (N, am_ts T, I, L, am_rs r)) → am_E S 68 (d + n + 3) 0 0 0 [.ref 14, .int o, am_jk, am_jk] [] (N, am_ts T, I, L, am_rs r) Q) ∧ (∀ (N : Nat) (T : Nat → Nat × Nat) (L : am_J) (r : Nat → Nat → Option Nat) (o : Int32) (I : am_I) (K : Int32 → am_I → Prop) (Q : am_Q), wg n 69 o I K → (∀ q I, K q I → Q (some (.int q)) (N, am_ts T, I, L, am_rs r)) → am_E S 69 (d + n + 3) 0 0 0 [.ref 14, .int o, am_jk, am_jk] [] (N, am_ts T, I, L, am_rs r) Q) ∧ (∀ (N : Nat) (T : Nat → Nat × Nat) (L : am_J) (r : Nat → Nat → Option Nat) (o : Int32) (I : am_I) (K : Int32 → am_I → Prop) (Q : am_Q), wg n 70 o I K → (∀ q I, K q I → Q (some (.int q)) (N, am_ts T, I, L, am_rs r)) → am_E S 70 (d + n + 3) 0 0 0 [.ref 14, .int o, am_jk, am_jk] [] (N, am_ts T, I, L, am_rs r) Q)
  | 0 => ⟨fun _ _ _ _ _ _ _ _ h => h.elim, fun _ _ _ _ _ _ _ _ h => h.elim, fun _ _ _ _ _ _ _ _ h => h.elim, fun _ _ _ _ _ _ _ _ h => h.elim, fun _ _ _ _ _ _ _ _ h => h.elim, fun _ _ _ _ _ _ _ _ h => h.elim⟩
  | n + 1 => by
    obtain ⟨g0, g1, g2, g3, g4, g5⟩ := @sg S d n
    refine ⟨?_, ?_, ?_, ?_, ?_, ?_⟩
    · intro N T L r o I K Q hw hK
      unfold wg at hw
      rw [if_pos rfl] at hw
      exact s_59 (d := d + n) hw g0 g1 g2 g3 g4 g5 hK
    · intro N T L r o I K Q hw hK
      unfold wg at hw
      rw [if_neg (by decide)] at hw
      rw [if_pos rfl] at hw
      exact s_60 (d := d + n) hw g0 g1 g2 g3 g4 g5 hK
    · intro N T L r o I K Q hw hK
      unfold wg at hw
      rw [if_neg (by decide)] at hw
      rw [if_neg (by decide)] at hw
      rw [if_pos rfl] at hw
      exact s_61 (d := d + n) hw g0 g1 g2 g3 g4 g5 hK
    · intro N T L r o I K Q hw hK
      unfold wg at hw
      rw [if_neg (by decide)] at hw
      rw [if_neg (by decide)] at hw
      rw [if_neg (by decide)] at hw
      rw [if_pos rfl] at hw
      exact s_68 (d := d + n) hw g0 g1 g2 g3 g4 g5 hK
    · intro N T L r o I K Q hw hK
      unfold wg at hw
      rw [if_neg (by decide)] at hw
      rw [if_neg (by decide)] at hw
      rw [if_neg (by decide)] at hw
      rw [if_neg (by decide)] at hw
      rw [if_pos rfl] at hw
      exact s_69 (d := d + n) hw g0 g1 g2 g3 g4 g5 hK
    · intro N T L r o I K Q hw hK
      unfold wg at hw
      rw [if_neg (by decide)] at hw
      rw [if_neg (by decide)] at hw
      rw [if_neg (by decide)] at hw
      rw [if_neg (by decide)] at hw
      rw [if_neg (by decide)] at hw
      rw [if_pos rfl] at hw
      exact s_70 (d := d + n) hw g0 g1 g2 g3 g4 g5 hK
def wx_59 (o : Int32) (I : am_I) (K : Int32 → am_I → Prop) : Prop := wg 40 59 o I K
theorem sx_59 {S : am_S} {d : Nat} {N : Nat} {T : Nat → Nat × Nat} {I : am_I} {L : am_J} {r : Nat → Nat → Option Nat} {Q : am_Q} {o : Int32} {K : Int32 → am_I → Prop} (hw : wx_59 o I K) (hK : ∀ q I, K q I → Q (some (.int q)) (N, am_ts T, I, L, am_rs r)) : am_E S 59 (d + 43) 0 0 0 [.ref 14, .int o, am_jk, am_jk] [] (N, am_ts T, I, L, am_rs r) Q := (@sg S d 40).1 N T L r o I K Q hw hK
def wx_60 (o : Int32) (I : am_I) (K : Int32 → am_I → Prop) : Prop := wg 40 60 o I K
theorem sx_60 {S : am_S} {d : Nat} {N : Nat} {T : Nat → Nat × Nat} {I : am_I} {L : am_J} {r : Nat → Nat → Option Nat} {Q : am_Q} {o : Int32} {K : Int32 → am_I → Prop} (hw : wx_60 o I K) (hK : ∀ q I, K q I → Q (some (.int q)) (N, am_ts T, I, L, am_rs r)) : am_E S 60 (d + 43) 0 0 0 [.ref 14, .int o, am_jk, am_jk] [] (N, am_ts T, I, L, am_rs r) Q := (@sg S d 40).2.1 N T L r o I K Q hw hK
def wx_61 (o : Int32) (I : am_I) (K : Int32 → am_I → Prop) : Prop := wg 40 61 o I K
theorem sx_61 {S : am_S} {d : Nat} {N : Nat} {T : Nat → Nat × Nat} {I : am_I} {L : am_J} {r : Nat → Nat → Option Nat} {Q : am_Q} {o : Int32} {K : Int32 → am_I → Prop} (hw : wx_61 o I K) (hK : ∀ q I, K q I → Q (some (.int q)) (N, am_ts T, I, L, am_rs r)) : am_E S 61 (d + 43) 0 0 0 [.ref 14, .int o, am_jk] [] (N, am_ts T, I, L, am_rs r) Q := (@sg S d 40).2.2.1 N T L r o I K Q hw hK
def wx_68 (o : Int32) (I : am_I) (K : Int32 → am_I → Prop) : Prop := wg 40 68 o I K
theorem sx_68 {S : am_S} {d : Nat} {N : Nat} {T : Nat → Nat × Nat} {I : am_I} {L : am_J} {r : Nat → Nat → Option Nat} {Q : am_Q} {o : Int32} {K : Int32 → am_I → Prop} (hw : wx_68 o I K) (hK : ∀ q I, K q I → Q (some (.int q)) (N, am_ts T, I, L, am_rs r)) : am_E S 68 (d + 43) 0 0 0 [.ref 14, .int o, am_jk, am_jk] [] (N, am_ts T, I, L, am_rs r) Q := (@sg S d 40).2.2.2.1 N T L r o I K Q hw hK
def wx_69 (o : Int32) (I : am_I) (K : Int32 → am_I → Prop) : Prop := wg 40 69 o I K
theorem sx_69 {S : am_S} {d : Nat} {N : Nat} {T : Nat → Nat × Nat} {I : am_I} {L : am_J} {r : Nat → Nat → Option Nat} {Q : am_Q} {o : Int32} {K : Int32 → am_I → Prop} (hw : wx_69 o I K) (hK : ∀ q I, K q I → Q (some (.int q)) (N, am_ts T, I, L, am_rs r)) : am_E S 69 (d + 43) 0 0 0 [.ref 14, .int o, am_jk, am_jk] [] (N, am_ts T, I, L, am_rs r) Q := (@sg S d 40).2.2.2.2.1 N T L r o I K Q hw hK
def wx_70 (o : Int32) (I : am_I) (K : Int32 → am_I → Prop) : Prop := wg 40 70 o I K
theorem sx_70 {S : am_S} {d : Nat} {N : Nat} {T : Nat → Nat × Nat} {I : am_I} {L : am_J} {r : Nat → Nat → Option Nat} {Q : am_Q} {o : Int32} {K : Int32 → am_I → Prop} (hw : wx_70 o I K) (hK : ∀ q I, K q I → Q (some (.int q)) (N, am_ts T, I, L, am_rs r)) : am_E S 70 (d + 43) 0 0 0 [.ref 14, .int o, am_jk, am_jk] [] (N, am_ts T, I, L, am_rs r) Q := (@sg S d 40).2.2.2.2.2 N T L r o I K Q hw hK
/-- KeyKeepers$Reader.readOrderSum(II)Z -/
def w_73 (x0 : Int32) (x1 : Int32) (I : am_I) (K : Int32 → am_I → Prop) : Prop :=
  wx_59 0 I (fun q1 I2 =>
    if q1 = 0 then
      K 0 I2
    else
      w_57 x0 I2 (fun I3 =>
        if x1 = (-1) then
          K 1 I3
        else
          w_62 (1000000 + x1) I3 (fun q4 I5 =>
            if q4 = 0 then
              K 0 I5
            else
              K 1 I5)))
set_option maxRecDepth 100000 in
theorem s_73 {S : am_S} {d : Nat} {N : Nat} {T : Nat → Nat × Nat} {I : am_I} {L : am_J} {r : Nat → Nat → Option Nat} {Q : am_Q} {x0 : Int32} {x1 : Int32} {K : Int32 → am_I → Prop} (hw : w_73 x0 x1 I K) (hK : ∀ (q : Int32) (I1 : am_I), K q I1 → Q (some (.int q)) (N, am_ts T, I1, L, am_rs r)) : am_E S 73 (d + 44) 0 0 0 [.ref 14, .int x0, .int x1] [] (N, am_ts T, I, L, am_rs r) Q := by
  unfold w_73 at hw
  try dsimp only at hw
  refine am_E.run [2] 2000 (show (am_E S 73 (d + 44) 0 0 2 [.ref 14, .int x0, .int x1] [.int 0, .ref 14] (N, am_ts T, I, L, am_rs r) Q) from ?_)
  refine am_E.go ⟨am_ki_I N T L r _, sx_59 hw (fun q1 I2 hk => ⟨q1, I2, rfl, rfl, hk⟩), ?_⟩
  intro v h9 hv
  obtain ⟨q1, I2, rfl, rfl, hw⟩ := hv
  try dsimp only at hw
  refine am_E.run [15] 2000 (show (if q1 = 0 then (((0 : Int32) = 0 ∨ (0 : Int32) = 1) ∧ Q (some (.int 0)) (N, am_ts T, I2, L, am_rs r)) else (am_E S 73 (d + 44) 0 0 15 [.ref 14, .int x0, .int x1] [.int x0, .ref 16] (N, am_ts T, I2, L, am_rs r) Q)) from ?_)
  by_cases hc : q1 = 0
  · rw [if_pos hc] at hw ⊢
    exact ⟨Or.inl rfl, hK _ _ hw⟩
  · rw [if_neg hc] at hw ⊢
    refine am_E.go ⟨am_kv_I N T L r _, s_57 hw (fun I3 hk => ⟨I3, rfl, rfl, hk⟩), ?_⟩
    intro v h9 hv
    obtain ⟨I3, rfl, rfl, hw⟩ := hv
    try dsimp only at hw
    refine am_E.run [28] 2000 (show (if x1 = (-1) then (((1 : Int32) = 0 ∨ (1 : Int32) = 1) ∧ Q (some (.int 1)) (N, am_ts T, I3, L, am_rs r)) else (am_E S 73 (d + 44) 0 0 28 [.ref 14, .int x0, .int x1] [.int (1000000 + x1), .ref 14] (N, am_ts T, I3, L, am_rs r) Q)) from ?_)
    by_cases hc : x1 = (-1)
    · rw [if_pos hc] at hw ⊢
      exact ⟨Or.inr rfl, hK _ _ hw⟩
    · rw [if_neg hc] at hw ⊢
      refine am_E.go ⟨am_ki_I N T L r _, s_62 hw (fun q4 I5 hk => ⟨q4, I5, rfl, rfl, hk⟩), ?_⟩
      intro v h9 hv
      obtain ⟨q4, I5, rfl, rfl, hw⟩ := hv
      try dsimp only at hw
      refine am_E.run [] 2000 (show (if q4 = 0 then (((0 : Int32) = 0 ∨ (0 : Int32) = 1) ∧ Q (some (.int 0)) (N, am_ts T, I5, L, am_rs r)) else (((1 : Int32) = 0 ∨ (1 : Int32) = 1) ∧ Q (some (.int 1)) (N, am_ts T, I5, L, am_rs r))) from ?_)
      by_cases hc : q4 = 0
      · rw [if_pos hc] at hw ⊢
        exact ⟨Or.inl rfl, hK _ _ hw⟩
      · rw [if_neg hc] at hw ⊢
        exact ⟨Or.inr rfl, hK _ _ hw⟩
/-- KeyKeepers$Reader.readTimes()Z -/
def w_74 (I : am_I) (K : Int32 → am_I → Prop) : Prop :=
  w_62 1000009 I (fun q1 I2 =>
    if q1 = 0 then
      K 1 I2
    else
      if (f_13 (I2 14 8) 1 20) = 0 then
        K 0 I2
      else
        w_75 (I2 14 8) I2 (fun I3 =>
          w_58 I3 (fun I4 =>
            K 1 I4)))
set_option maxRecDepth 100000 in
theorem s_74 {S : am_S} {d : Nat} {N : Nat} {T : Nat → Nat × Nat} {I : am_I} {L : am_J} {r : Nat → Nat → Option Nat} {Q : am_Q} {K : Int32 → am_I → Prop} (hw : w_74 I K) (hK : ∀ (q : Int32) (I1 : am_I), K q I1 → Q (some (.int q)) (N, am_ts T, I1, L, am_rs r)) : am_E S 74 (d + 2) 0 0 0 [.ref 14] [] (N, am_ts T, I, L, am_rs r) Q := by
  unfold w_74 at hw
  try dsimp only at hw
  refine am_E.run [3] 2000 (show (am_E S 74 (d + 2) 0 0 3 [.ref 14] [.int 1000009, .ref 14] (N, am_ts T, I, L, am_rs r) Q) from ?_)
  refine am_E.go ⟨am_ki_I N T L r _, s_62 hw (fun q1 I2 hk => ⟨q1, I2, rfl, rfl, hk⟩), ?_⟩
  intro v h9 hv
  obtain ⟨q1, I2, rfl, rfl, hw⟩ := hv
  try dsimp only at hw
  refine am_E.run [18] 2000 (show (if q1 = 0 then (((1 : Int32) = 0 ∨ (1 : Int32) = 1) ∧ Q (some (.int 1)) (N, am_ts T, I2, L, am_rs r)) else (am_E S 74 (d + 2) 0 0 18 [.ref 14] [.int 20, .int 1, .int (I2 14 8)] (N, am_ts T, I2, L, am_rs r) Q)) from ?_)
  by_cases hc : q1 = 0
  · rw [if_pos hc] at hw ⊢
    exact ⟨Or.inr rfl, hK _ _ hw⟩
  · rw [if_neg hc] at hw ⊢
    refine am_E.go ⟨fun v h9 => v = some (.int (f_13 (I2 14 8) 1 20)) ∧ h9 = (N, am_ts T, I2, L, am_rs r), s_13 ⟨rfl, rfl⟩, ?_⟩
    intro v h9 hv
    obtain ⟨rfl, rfl⟩ := hv
    refine am_E.run [34] 2000 (show (if (f_13 (I2 14 8) 1 20) = 0 then (((0 : Int32) = 0 ∨ (0 : Int32) = 1) ∧ Q (some (.int 0)) (N, am_ts T, I2, L, am_rs r)) else (am_E S 74 (d + 2) 0 0 34 [.ref 14] [.int (I2 14 8), .ref 16] (N, am_ts T, I2, L, am_rs r) Q)) from ?_)
    by_cases hc : (f_13 (I2 14 8) 1 20) = 0
    · rw [if_pos hc] at hw ⊢
      exact ⟨Or.inl rfl, hK _ _ hw⟩
    · rw [if_neg hc] at hw ⊢
      refine am_E.go ⟨am_kv_I N T L r _, s_75 hw (fun I3 hk => ⟨I3, rfl, rfl, hk⟩), ?_⟩
      intro v h9 hv
      obtain ⟨I3, rfl, rfl, hw⟩ := hv
      try dsimp only at hw
      refine am_E.run [38] 2000 (show (am_E S 74 (d + 2) 0 0 38 [.ref 14] [.ref 14] (N, am_ts T, I3, L, am_rs r) Q) from ?_)
      refine am_E.go ⟨am_kv_I N T L r _, s_58 hw (fun I4 hk => ⟨I4, rfl, rfl, hk⟩), ?_⟩
      intro v h9 hv
      obtain ⟨I4, rfl, rfl, hw⟩ := hv
      try dsimp only at hw
      refine am_E.run [] 2000 (show (((1 : Int32) = 0 ∨ (1 : Int32) = 1) ∧ Q (some (.int 1)) (N, am_ts T, I4, L, am_rs r)) from ?_)
      exact ⟨Or.inr rfl, hK _ _ hw⟩
/-- KeyKeepers$Sergeant.setWords(LKeyKeepers$Prison;LKeyKeepers$Machine;)V -/
def w_85 (T : Nat → Nat × Nat) (r : Nat → Nat → Option Nat) (I : am_I) (K : am_I → Prop) : Prop :=
  w_86 6 T r (am_u (am_u I 25 7 (I 12 0)) 25 10 (I 1 18)) (fun q1 =>
    K (am_u (am_u (am_u (am_u (am_u I 25 7 (I 12 0)) 25 10 (I 1 18)) 25 11 q1) 25 12 (I 35 0)) 25 13 (I 35 2)))
set_option maxRecDepth 100000 in
theorem s_85 {S : am_S} {d : Nat} {N : Nat} {T : Nat → Nat × Nat} {I : am_I} {L : am_J} {r : Nat → Nat → Option Nat} {Q : am_Q} {K : am_I → Prop} (hw : w_85 T r I K) (hK : ∀ (I1 : am_I), K I1 → Q (none) (N, am_ts T, I1, L, am_rs r)) : am_E S 85 (d + 1) 0 0 0 [.ref 35, .ref 1, .ref 24] [] (N, am_ts T, I, L, am_rs r) Q := by
  unfold w_85 at hw
  try dsimp only at hw
  refine am_E.run [35] 2000 (show (am_E S 85 (d + 1) 0 0 35 [.ref 35, .ref 1, .ref 24] [.ref 6, .ref 1, .int 11, .ref 25] (N, am_ts T, (am_u (am_u I 25 7 (I 12 0)) 25 10 (I 1 18)), L, am_rs r) Q) from ?_)
  refine am_E.go ⟨am_ki_ N T (am_u (am_u I 25 7 (I 12 0)) 25 10 (I 1 18)) L r _, s_86 hw (fun q1 hk => ⟨q1, rfl, rfl, hk⟩), ?_⟩
  intro v h9 hv
  obtain ⟨q1, rfl, rfl, hw⟩ := hv
  try dsimp only at hw
  refine am_E.run [] 2000 (show (True ∧ Q (none) (N, am_ts T, (am_u (am_u (am_u (am_u (am_u I 25 7 (I 12 0)) 25 10 (I 1 18)) 25 11 q1) 25 12 (I 35 0)) 25 13 (I 35 2)), L, am_rs r)) from ?_)
  exact ⟨trivial, hK _ hw⟩
def lw_87_43 : Nat → Nat → Int32 → Int32 → Int32 → Int32 → (Nat → Nat × Nat) → (Nat → Nat → Option Nat) → am_I → (Int32 → Int32 → Int32 → am_I → Prop) → Prop
  | 0, _, _, _, _, _, _, _, _, _ => False
  | n + 1, v2, v5, v6, v7, v8, T, r, I, E0 =>
    if (400 : Int32) ≤ v8 then
      E0 v5 v7 v8 I
    else
      if v6 ≤ v5 then
        E0 v5 v7 v8 I
      else
        if v7 = 0 then
          E0 v5 v7 v8 I
        else
          (am_ts T v2).1 = 11 ∧ ∃ c3, (am_rs r v2 0) = some c3 ∧
          ((am_ts T c3).1 = 20) ∧
          ¬ (v5 < 0 ∨ (am_ts T c3).2 ≤ Int32.toNatClampNeg v5) ∧
          (am_ts T v2).1 = 11 ∧ ∃ c4, (am_rs r v2 0) = some c4 ∧
          ((am_ts T c4).1 = 20) ∧
          ¬ (v5 < 0 ∨ (am_ts T c4).2 ≤ Int32.toNatClampNeg v5) ∧
          if (4 : Int32) ≤ ((I c3 (Int32.toNatClampNeg v5)) - (I c3 (Int32.toNatClampNeg v5)) / 16 * 16) then
            if (12 : Int32) ≤ ((I c3 (Int32.toNatClampNeg v5)) - (I c3 (Int32.toNatClampNeg v5)) / 16 * 16) then
              w_91 ((I c3 (Int32.toNatClampNeg v5)) - (I c3 (Int32.toNatClampNeg v5)) / 16 * 16) I (fun q5 I6 =>
                if q5 = 0 then
                  lw_87_43 n v2 (v5 + 1) v6 v7 (v8 + 1) T r I6 E0
                else
                  lw_87_43 n v2 (if (v5 + 1) < ((I c4 (Int32.toNatClampNeg v5)) / 16) then ((I c4 (Int32.toNatClampNeg v5)) / 16) else (v5 + 1)) v6 v7 (v8 + 1) T r I6 E0)
            else
              w_90 ((I c3 (Int32.toNatClampNeg v5)) - (I c3 (Int32.toNatClampNeg v5)) / 16 * 16) I (fun q7 I8 =>
                lw_87_43 n v2 (v5 + 1) v6 q7 (v8 + 1) T r I8 E0)
          else
            w_89 ((I c3 (Int32.toNatClampNeg v5)) - (I c3 (Int32.toNatClampNeg v5)) / 16 * 16) ((I c4 (Int32.toNatClampNeg v5)) / 16) I (fun q9 I10 =>
              lw_87_43 n v2 (v5 + 1) v6 q9 (v8 + 1) T r I10 E0)
set_option maxRecDepth 100000 in
theorem sl_87_43 {S : am_S} {d : Nat} {Q : am_Q} {N : Nat} {T : Nat → Nat × Nat} {L : am_J} {r : Nat → Nat → Option Nat} {E0 : Int32 → Int32 → Int32 → am_I → Prop} : ∀ (n : Nat) {v2 : Nat} {v5 : Int32} {v6 : Int32} {v7 : Int32} {v8 : Int32} {I : am_I}, lw_87_43 n v2 v5 v6 v7 v8 T r I E0 → (∀ (o5 : Int32) (o7 : Int32) (o8 : Int32) (I1 : am_I), E0 o5 o7 o8 I1 → am_E S 87 (d + 1) 0 0 152 [.ref 24, .ref 1, .ref v2, am_jk, am_jk, .int o5, .int v6, .int o7, .int o8, am_jk, am_jk] [] (N, am_ts T, I1, L, am_rs r) Q) → am_E S 87 (d + 1) 0 0 43 [.ref 24, .ref 1, .ref v2, am_jk, am_jk, .int v5, .int v6, .int v7, .int v8, am_jk, am_jk] [] (N, am_ts T, I, L, am_rs r) Q
  | 0, _, _, _, _, _, _, hw, _ => hw.elim
  | n + 1, v2, v5, v6, v7, v8, I, hw, hE0 => by
    have ih := @sl_87_43 S d Q N T L r E0 n
    unfold lw_87_43 at hw
    try dsimp only at hw
    refine am_E.run [67, 152] 2000 (show (if (400 : Int32) ≤ v8 then (am_E S 87 (d + 1) 0 0 152 [.ref 24, .ref 1, .ref v2, am_jk, am_jk, .int v5, .int v6, .int v7, .int v8, am_jk, am_jk] [] (N, am_ts T, I, L, am_rs r) Q) else (if v6 ≤ v5 then (am_E S 87 (d + 1) 0 0 152 [.ref 24, .ref 1, .ref v2, am_jk, am_jk, .int v5, .int v6, .int v7, .int v8, am_jk, am_jk] [] (N, am_ts T, I, L, am_rs r) Q) else (if v7 = 0 then (am_E S 87 (d + 1) 0 0 152 [.ref 24, .ref 1, .ref v2, am_jk, am_jk, .int v5, .int v6, .int v7, .int v8, am_jk, am_jk] [] (N, am_ts T, I, L, am_rs r) Q) else (if (am_ts T v2).1 = 11 ∧ 2 < 4 then (am_E S 87 (d + 1) 0 0 67 [.ref 24, .ref 1, .ref v2, am_jk, am_jk, .int v5, .int v6, .int v7, .int v8, am_jk, am_jk] [am_rv (am_rs r v2 0)] (N, am_ts T, I, L, am_rs r) Q) else False)))) from ?_)
    by_cases hc : (400 : Int32) ≤ v8
    · rw [if_pos hc] at hw ⊢
      exact hE0 _ _ _ _ hw
    · rw [if_neg hc] at hw ⊢
      by_cases hc : v6 ≤ v5
      · rw [if_pos hc] at hw ⊢
        exact hE0 _ _ _ _ hw
      · rw [if_neg hc] at hw ⊢
        by_cases hc : v7 = 0
        · rw [if_pos hc] at hw ⊢
          exact hE0 _ _ _ _ hw
        · rw [if_neg hc] at hw ⊢
          refine am_ifp ⟨hw.1, by decide⟩ ?_
          replace hw := hw.2
          obtain ⟨c3, hx, hw⟩ := hw
          rw [hx]
          refine am_E.run [79] 2000 (show (if (am_ts T c3).1 = 20 then (if v5 < 0 ∨ (am_ts T c3).2 ≤ Int32.toNatClampNeg v5 then False else (if (am_ts T v2).1 = 11 ∧ 2 < 4 then (am_E S 87 (d + 1) 0 0 79 [.ref 24, .ref 1, .ref v2, am_jk, am_jk, .int v5, .int v6, .int v7, .int v8, .int ((I c3 (Int32.toNatClampNeg v5)) - (I c3 (Int32.toNatClampNeg v5)) / 16 * 16), am_jk] [am_rv (am_rs r v2 0)] (N, am_ts T, I, L, am_rs r) Q) else False)) else False) from ?_)
          refine am_ifp hw.1 ?_
          replace hw := hw.2
          refine am_ifn hw.1 ?_
          replace hw := hw.2
          refine am_ifp ⟨hw.1, by decide⟩ ?_
          replace hw := hw.2
          obtain ⟨c4, hx, hw⟩ := hw
          rw [hx]
          refine am_E.run [102, 120, 131] 2000 (show (if (am_ts T c4).1 = 20 then (if v5 < 0 ∨ (am_ts T c4).2 ≤ Int32.toNatClampNeg v5 then False else (if (4 : Int32) ≤ ((I c3 (Int32.toNatClampNeg v5)) - (I c3 (Int32.toNatClampNeg v5)) / 16 * 16) then (if (12 : Int32) ≤ ((I c3 (Int32.toNatClampNeg v5)) - (I c3 (Int32.toNatClampNeg v5)) / 16 * 16) then (am_E S 87 (d + 1) 0 0 131 [.ref 24, .ref 1, .ref v2, am_jk, am_jk, .int (v5 + 1), .int v6, .int v7, .int v8, .int ((I c3 (Int32.toNatClampNeg v5)) - (I c3 (Int32.toNatClampNeg v5)) / 16 * 16), .int ((I c4 (Int32.toNatClampNeg v5)) / 16)] [.int ((I c3 (Int32.toNatClampNeg v5)) - (I c3 (Int32.toNatClampNeg v5)) / 16 * 16), .ref 24] (N, am_ts T, I, L, am_rs r) Q) else (am_E S 87 (d + 1) 0 0 120 [.ref 24, .ref 1, .ref v2, am_jk, am_jk, .int (v5 + 1), .int v6, .int v7, .int v8, .int ((I c3 (Int32.toNatClampNeg v5)) - (I c3 (Int32.toNatClampNeg v5)) / 16 * 16), .int ((I c4 (Int32.toNatClampNeg v5)) / 16)] [.int ((I c3 (Int32.toNatClampNeg v5)) - (I c3 (Int32.toNatClampNeg v5)) / 16 * 16), .ref 24] (N, am_ts T, I, L, am_rs r) Q)) else (am_E S 87 (d + 1) 0 0 102 [.ref 24, .ref 1, .ref v2, am_jk, am_jk, .int (v5 + 1), .int v6, .int v7, .int v8, .int ((I c3 (Int32.toNatClampNeg v5)) - (I c3 (Int32.toNatClampNeg v5)) / 16 * 16), .int ((I c4 (Int32.toNatClampNeg v5)) / 16)] [.int ((I c4 (Int32.toNatClampNeg v5)) / 16), .int ((I c3 (Int32.toNatClampNeg v5)) - (I c3 (Int32.toNatClampNeg v5)) / 16 * 16), .ref 1, .ref 24] (N, am_ts T, I, L, am_rs r) Q))) else False) from ?_)
          refine am_ifp hw.1 ?_
          replace hw := hw.2
          refine am_ifn hw.1 ?_
          replace hw := hw.2
          by_cases hc : (4 : Int32) ≤ ((I c3 (Int32.toNatClampNeg v5)) - (I c3 (Int32.toNatClampNeg v5)) / 16 * 16)
          · rw [if_pos hc] at hw ⊢
            by_cases hc : (12 : Int32) ≤ ((I c3 (Int32.toNatClampNeg v5)) - (I c3 (Int32.toNatClampNeg v5)) / 16 * 16)
            · rw [if_pos hc] at hw ⊢
              refine am_E.go ⟨am_ki_I N T L r _, s_91 hw (fun q5 I6 hk => ⟨q5, I6, rfl, rfl, hk⟩), ?_⟩
              intro v h9 hv
              obtain ⟨q5, I6, rfl, rfl, hw⟩ := hv
              try dsimp only at hw
              refine am_E.run [43] 2000 (show (if q5 = 0 then (am_E S 87 (d + 1) 0 0 43 [.ref 24, .ref 1, .ref v2, am_jk, am_jk, .int (v5 + 1), .int v6, .int v7, .int (v8 + 1), .int ((I c3 (Int32.toNatClampNeg v5)) - (I c3 (Int32.toNatClampNeg v5)) / 16 * 16), .int ((I c4 (Int32.toNatClampNeg v5)) / 16)] [] (N, am_ts T, I6, L, am_rs r) Q) else (am_E S 87 (d + 1) 0 0 43 [.ref 24, .ref 1, .ref v2, am_jk, am_jk, .int (if (v5 + 1) < ((I c4 (Int32.toNatClampNeg v5)) / 16) then ((I c4 (Int32.toNatClampNeg v5)) / 16) else (v5 + 1)), .int v6, .int v7, .int (v8 + 1), .int ((I c3 (Int32.toNatClampNeg v5)) - (I c3 (Int32.toNatClampNeg v5)) / 16 * 16), .int ((I c4 (Int32.toNatClampNeg v5)) / 16)] [] (N, am_ts T, I6, L, am_rs r) Q)) from ?_)
              by_cases hc : q5 = 0
              · rw [if_pos hc] at hw ⊢
                exact am_E.junk (ih hw hE0) (am_le.cons (am_le.cons (am_le.cons (am_le.cons (am_le.cons (am_le.cons (am_le.cons (am_le.cons (am_le.cons (am_le.jk (am_le.jk am_le.nil)))))))))))
              · rw [if_neg hc] at hw ⊢
                exact am_E.junk (ih hw hE0) (am_le.cons (am_le.cons (am_le.cons (am_le.cons (am_le.cons (am_le.cons (am_le.cons (am_le.cons (am_le.cons (am_le.jk (am_le.jk am_le.nil)))))))))))
            · rw [if_neg hc] at hw ⊢
              refine am_E.go ⟨am_ki_I N T L r _, s_90 hw (fun q7 I8 hk => ⟨q7, I8, rfl, rfl, hk⟩), ?_⟩
              intro v h9 hv
              obtain ⟨q7, I8, rfl, rfl, hw⟩ := hv
              try dsimp only at hw
              refine am_E.run [43] 2000 (show (am_E S 87 (d + 1) 0 0 43 [.ref 24, .ref 1, .ref v2, am_jk, am_jk, .int (v5 + 1), .int v6, .int q7, .int (v8 + 1), .int ((I c3 (Int32.toNatClampNeg v5)) - (I c3 (Int32.toNatClampNeg v5)) / 16 * 16), .int ((I c4 (Int32.toNatClampNeg v5)) / 16)] [] (N, am_ts T, I8, L, am_rs r) Q) from ?_)
              exact am_E.junk (ih hw hE0) (am_le.cons (am_le.cons (am_le.cons (am_le.cons (am_le.cons (am_le.cons (am_le.cons (am_le.cons (am_le.cons (am_le.jk (am_le.jk am_le.nil)))))))))))
          · rw [if_neg hc] at hw ⊢
            refine am_E.go ⟨am_ki_I N T L r _, s_89 hw (fun q9 I10 hk => ⟨q9, I10, rfl, rfl, hk⟩), ?_⟩
            intro v h9 hv
            obtain ⟨q9, I10, rfl, rfl, hw⟩ := hv
            try dsimp only at hw
            refine am_E.run [43] 2000 (show (am_E S 87 (d + 1) 0 0 43 [.ref 24, .ref 1, .ref v2, am_jk, am_jk, .int (v5 + 1), .int v6, .int q9, .int (v8 + 1), .int ((I c3 (Int32.toNatClampNeg v5)) - (I c3 (Int32.toNatClampNeg v5)) / 16 * 16), .int ((I c4 (Int32.toNatClampNeg v5)) / 16)] [] (N, am_ts T, I10, L, am_rs r) Q) from ?_)
            exact am_E.junk (ih hw hE0) (am_le.cons (am_le.cons (am_le.cons (am_le.cons (am_le.cons (am_le.cons (am_le.cons (am_le.cons (am_le.cons (am_le.jk (am_le.jk am_le.nil)))))))))))
/-- KeyKeepers$Machine.works(LKeyKeepers$Prison;LKeyKeepers$Text;II)Z -/
def w_87 (x1 : Nat) (x2 : Int32) (x3 : Int32) (T : Nat → Nat × Nat) (r : Nat → Nat → Option Nat) (I : am_I) (K : Int32 → am_I → Prop) : Prop :=
  ((am_ts T x1).1 = 11) ∧
  w_88 x1 x2 x3 T r I (fun q1 =>
    ((am_ts T x1).1 = 11) ∧
    w_88 x1 x2 (x3 + 1) T r I (fun q2 =>
      ((am_ts T x1).1 = 11) ∧
      ∃ n43, lw_87_43 n43 x1 q1 (if (I x1 1) < q2 then (I x1 1) else q2) 1 0 T r (am_u (am_u I 24 3 0) 24 1 1) (fun o11 o12 o13 I14 =>
        if o12 = 0 then
          (o12 = 0 ∨ o12 = 1) ∧ K o12 I14
        else
          if (I14 24 3) ≤ 0 then
            (o12 = 0 ∨ o12 = 1) ∧ K o12 I14
          else
            ¬ (((I14 24 3) - 1) < 0 ∨ 32 ≤ Int32.toNatClampNeg ((I14 24 3) - 1)) ∧
            (o12 = 0 ∨ o12 = 1) ∧ K o12 (am_u I14 24 1 (I14 26 (Int32.toNatClampNeg ((I14 24 3) - 1)))))))
set_option maxRecDepth 100000 in
theorem s_87 {S : am_S} {d : Nat} {N : Nat} {T : Nat → Nat × Nat} {I : am_I} {L : am_J} {r : Nat → Nat → Option Nat} {Q : am_Q} {x1 : Nat} {x2 : Int32} {x3 : Int32} {K : Int32 → am_I → Prop} (hw : w_87 x1 x2 x3 T r I K) (hK : ∀ (q : Int32) (I1 : am_I), K q I1 → Q (some (.int q)) (N, am_ts T, I1, L, am_rs r)) : am_E S 87 (d + 1) 0 0 0 [.ref 24, .ref 1, .ref x1, .int x2, .int x3, am_jk, am_jk, am_jk, am_jk, am_jk, am_jk] [] (N, am_ts T, I, L, am_rs r) Q := by
  unfold w_87 at hw
  try dsimp only at hw
  refine am_E.run [4] 2000 (show (am_E S 87 (d + 1) 0 0 4 [.ref 24, .ref 1, .ref x1, .int x2, .int x3, am_jk, am_jk, am_jk, am_jk, am_jk, am_jk] [.int x3, .int x2, .ref x1] (N, am_ts T, I, L, am_rs r) Q) from ?_)
  refine am_E.go (show (if (List.length (List.take 2 [.int x3, .int x2, .ref x1]) = 2 ∧ (am_ts T x1).1 = 11) then _ else False) from ?_)
  refine am_ifp ⟨rfl, hw.1⟩ ?_
  replace hw := hw.2
  refine ⟨am_ki_ N T I L r _, s_88 hw (fun q1 hk => ⟨q1, rfl, rfl, hk⟩), ?_⟩
  intro v h9 hv
  obtain ⟨q1, rfl, rfl, hw⟩ := hv
  try dsimp only at hw
  refine am_E.run [15] 2000 (show (am_E S 87 (d + 1) 0 0 15 [.ref 24, .ref 1, .ref x1, .int x2, .int x3, .int q1, am_jk, am_jk, am_jk, am_jk, am_jk] [.int (x3 + 1), .int x2, .ref x1] (N, am_ts T, I, L, am_rs r) Q) from ?_)
  refine am_E.go (show (if (List.length (List.take 2 [.int (x3 + 1), .int x2, .ref x1]) = 2 ∧ (am_ts T x1).1 = 11) then _ else False) from ?_)
  refine am_ifp ⟨rfl, hw.1⟩ ?_
  replace hw := hw.2
  refine ⟨am_ki_ N T I L r _, s_88 hw (fun q2 hk => ⟨q2, rfl, rfl, hk⟩), ?_⟩
  intro v h9 hv
  obtain ⟨q2, rfl, rfl, hw⟩ := hv
  try dsimp only at hw
  refine am_E.run [43] 2000 (show (if (am_ts T x1).1 = 11 ∧ 0 < 4 then (am_E S 87 (d + 1) 0 0 43 [.ref 24, .ref 1, .ref x1, .int x2, .int x3, .int q1, .int (if (I x1 1) < q2 then (I x1 1) else q2), .int 1, .int 0, am_jk, am_jk] [] (N, am_ts T, (am_u (am_u I 24 3 0) 24 1 1), L, am_rs r) Q) else False) from ?_)
  refine am_ifp ⟨hw.1, by decide⟩ ?_
  replace hw := hw.2
  obtain ⟨n43, hw⟩ := hw
  refine am_E.junk (lo := [.ref 24, .ref 1, .ref x1, am_jk, am_jk, .int q1, .int (if (I x1 1) < q2 then (I x1 1) else q2), .int 1, .int 0, am_jk, am_jk]) ?_ (am_le.cons (am_le.cons (am_le.cons (am_le.jk (am_le.jk (am_le.cons (am_le.cons (am_le.cons (am_le.cons (am_le.cons (am_le.cons am_le.nil)))))))))))
  refine sl_87_43 n43 hw (fun o11 o12 o13 I14 hw => ?_)
  · try dsimp only at hw
    refine am_E.run [] 2000 (show (if o12 = 0 then ((o12 = 0 ∨ o12 = 1) ∧ Q (some (.int o12)) (N, am_ts T, I14, L, am_rs r)) else (if (I14 24 3) ≤ 0 then ((o12 = 0 ∨ o12 = 1) ∧ Q (some (.int o12)) (N, am_ts T, I14, L, am_rs r)) else (if ((I14 24 3) - 1) < 0 ∨ 32 ≤ Int32.toNatClampNeg ((I14 24 3) - 1) then False else ((o12 = 0 ∨ o12 = 1) ∧ Q (some (.int o12)) (N, am_ts T, (am_u I14 24 1 (I14 26 (Int32.toNatClampNeg ((I14 24 3) - 1)))), L, am_rs r))))) from ?_)
    by_cases hc : o12 = 0
    · rw [if_pos hc] at hw ⊢
      exact ⟨hw.1, hK _ _ hw.2⟩
    · rw [if_neg hc] at hw ⊢
      by_cases hc : (I14 24 3) ≤ 0
      · rw [if_pos hc] at hw ⊢
        exact ⟨hw.1, hK _ _ hw.2⟩
      · rw [if_neg hc] at hw ⊢
        refine am_ifn hw.1 ?_
        replace hw := hw.2
        exact ⟨hw.1, hK _ _ hw.2⟩
def lw_92_32 : Nat → Int32 → Int32 → Int32 → (Nat → Nat × Nat) → (Nat → Nat → Option Nat) → am_I → (Int32 → am_I → Prop) → (Int32 → am_I → Prop) → Prop
  | 0, _, _, _, _, _, _, _, _ => False
  | n + 1, v3, v6, v7, T, r, I, E0, R =>
    if v6 ≤ v7 then
      E0 v7 I
    else
      w_87 16 v3 v7 T r I (fun q2 I3 =>
        if q2 = 0 then
          R 0 I3
        else
          ¬ (v7 < 0 ∨ 3 ≤ Int32.toNatClampNeg v7) ∧
          lw_92_32 n v3 v6 (v7 + 1) T r (am_u I3 54 (Int32.toNatClampNeg v7) (I3 24 1)) E0 R)
set_option maxRecDepth 100000 in
theorem sl_92_32 {S : am_S} {d : Nat} {Q : am_Q} {N : Nat} {T : Nat → Nat × Nat} {L : am_J} {r : Nat → Nat → Option Nat} {E0 : Int32 → am_I → Prop} {R : Int32 → am_I → Prop} : ∀ (n : Nat) {v3 : Int32} {v6 : Int32} {v7 : Int32} {I : am_I}, lw_92_32 n v3 v6 v7 T r I E0 R → (∀ (o7 : Int32) (I1 : am_I), E0 o7 I1 → am_E S 92 (d + 2) 0 0 72 [.ref 35, .ref 1, .ref 16, .int v3, .ref 24, am_jk, .int v6, .int o7] [] (N, am_ts T, I1, L, am_rs r) Q) → (∀ (q : Int32) (I1 : am_I), R q I1 → Q (some (.int q)) (N, am_ts T, I1, L, am_rs r)) → am_E S 92 (d + 2) 0 0 32 [.ref 35, .ref 1, .ref 16, .int v3, .ref 24, am_jk, .int v6, .int v7] [] (N, am_ts T, I, L, am_rs r) Q
  | 0, _, _, _, _, hw, _, _ => hw.elim
  | n + 1, v3, v6, v7, I, hw, hE0, hR => by
    have ih := @sl_92_32 S d Q N T L r E0 R n
    unfold lw_92_32 at hw
    try dsimp only at hw
    refine am_E.run [46, 72] 2000 (show (if v6 ≤ v7 then (am_E S 92 (d + 2) 0 0 72 [.ref 35, .ref 1, .ref 16, .int v3, .ref 24, am_jk, .int v6, .int v7] [] (N, am_ts T, I, L, am_rs r) Q) else (am_E S 92 (d + 2) 0 0 46 [.ref 35, .ref 1, .ref 16, .int v3, .ref 24, am_jk, .int v6, .int v7] [.int v7, .int v3, .ref 16, .ref 1, .ref 24] (N, am_ts T, I, L, am_rs r) Q)) from ?_)
    by_cases hc : v6 ≤ v7
    · rw [if_pos hc] at hw ⊢
      exact hE0 _ _ hw
    · rw [if_neg hc] at hw ⊢
      refine am_E.go ⟨am_ki_I N T L r _, s_87 hw (fun q2 I3 hk => ⟨q2, I3, rfl, rfl, hk⟩), ?_⟩
      intro v h9 hv
      obtain ⟨q2, I3, rfl, rfl, hw⟩ := hv
      try dsimp only at hw
      refine am_E.run [32] 2000 (show (if q2 = 0 then (((0 : Int32) = 0 ∨ (0 : Int32) = 1) ∧ Q (some (.int 0)) (N, am_ts T, I3, L, am_rs r)) else (if v7 < 0 ∨ 3 ≤ Int32.toNatClampNeg v7 then False else (am_E S 92 (d + 2) 0 0 32 [.ref 35, .ref 1, .ref 16, .int v3, .ref 24, am_jk, .int v6, .int (v7 + 1)] [] (N, am_ts T, (am_u I3 54 (Int32.toNatClampNeg v7) (I3 24 1)), L, am_rs r) Q))) from ?_)
      by_cases hc : q2 = 0
      · rw [if_pos hc] at hw ⊢
        exact ⟨Or.inl rfl, hR _ _ hw⟩
      · rw [if_neg hc] at hw ⊢
        refine am_ifn hw.1 ?_
        replace hw := hw.2
        exact ih hw hE0 hR
/-- KeyKeepers$Sergeant.worksSums(LKeyKeepers$Prison;LKeyKeepers$Text;ILKeyKeepers$Machine;)Z -/
def w_92 (x2 : Int32) (T : Nat → Nat × Nat) (r : Nat → Nat → Option Nat) (I : am_I) (K : Int32 → am_I → Prop) : Prop :=
  w_83 16 x2 T r I (fun q1 =>
    if q1 = 0 then
      ∃ n32, lw_92_32 n32 x2 2 0 T r I (fun o12 I13 =>
        K 1 I13) K
    else
      if q1 = 1 then
        ∃ n32, lw_92_32 n32 x2 3 0 T r I (fun o8 I9 =>
          K 1 I9) K
      else
        ∃ n32, lw_92_32 n32 x2 0 0 T r I (fun o4 I5 =>
          K 1 I5) K)
set_option maxRecDepth 100000 in
theorem s_92 {S : am_S} {d : Nat} {N : Nat} {T : Nat → Nat × Nat} {I : am_I} {L : am_J} {r : Nat → Nat → Option Nat} {Q : am_Q} {x2 : Int32} {K : Int32 → am_I → Prop} (hw : w_92 x2 T r I K) (hK : ∀ (q : Int32) (I1 : am_I), K q I1 → Q (some (.int q)) (N, am_ts T, I1, L, am_rs r)) : am_E S 92 (d + 2) 0 0 0 [.ref 35, .ref 1, .ref 16, .int x2, .ref 24, am_jk, am_jk, am_jk] [] (N, am_ts T, I, L, am_rs r) Q := by
  unfold w_92 at hw
  try dsimp only at hw
  refine am_E.run [2] 2000 (show (am_E S 92 (d + 2) 0 0 2 [.ref 35, .ref 1, .ref 16, .int x2, .ref 24, am_jk, am_jk, am_jk] [.int x2, .ref 16] (N, am_ts T, I, L, am_rs r) Q) from ?_)
  refine am_E.go ⟨am_ki_ N T I L r _, s_83 hw (fun q1 hk => ⟨q1, rfl, rfl, hk⟩), ?_⟩
  intro v h9 hv
  obtain ⟨q1, rfl, rfl, hw⟩ := hv
  try dsimp only at hw
  refine am_E.run [32] 2000 (show (if q1 = 0 then (am_E S 92 (d + 2) 0 0 32 [.ref 35, .ref 1, .ref 16, .int x2, .ref 24, .int q1, .int 2, .int 0] [] (N, am_ts T, I, L, am_rs r) Q) else (if q1 = 1 then (am_E S 92 (d + 2) 0 0 32 [.ref 35, .ref 1, .ref 16, .int x2, .ref 24, .int q1, .int 3, .int 0] [] (N, am_ts T, I, L, am_rs r) Q) else (am_E S 92 (d + 2) 0 0 32 [.ref 35, .ref 1, .ref 16, .int x2, .ref 24, .int q1, .int 0, .int 0] [] (N, am_ts T, I, L, am_rs r) Q))) from ?_)
  by_cases hc : q1 = 0
  · rw [if_pos hc] at hw ⊢
    obtain ⟨n32, hw⟩ := hw
    refine am_E.junk (lo := [.ref 35, .ref 1, .ref 16, .int x2, .ref 24, am_jk, .int 2, .int 0]) ?_ (am_le.cons (am_le.cons (am_le.cons (am_le.cons (am_le.cons (am_le.jk (am_le.cons (am_le.cons am_le.nil))))))))
    refine sl_92_32 n32 hw (fun o12 I13 hw => ?_) hK
    · try dsimp only at hw
      refine am_E.run [] 2000 (show (((1 : Int32) = 0 ∨ (1 : Int32) = 1) ∧ Q (some (.int 1)) (N, am_ts T, I13, L, am_rs r)) from ?_)
      exact ⟨Or.inr rfl, hK _ _ hw⟩
  · rw [if_neg hc] at hw ⊢
    by_cases hc : q1 = 1
    · rw [if_pos hc] at hw ⊢
      obtain ⟨n32, hw⟩ := hw
      refine am_E.junk (lo := [.ref 35, .ref 1, .ref 16, .int x2, .ref 24, am_jk, .int 3, .int 0]) ?_ (am_le.cons (am_le.cons (am_le.cons (am_le.cons (am_le.cons (am_le.jk (am_le.cons (am_le.cons am_le.nil))))))))
      refine sl_92_32 n32 hw (fun o8 I9 hw => ?_) hK
      · try dsimp only at hw
        refine am_E.run [] 2000 (show (((1 : Int32) = 0 ∨ (1 : Int32) = 1) ∧ Q (some (.int 1)) (N, am_ts T, I9, L, am_rs r)) from ?_)
        exact ⟨Or.inr rfl, hK _ _ hw⟩
    · rw [if_neg hc] at hw ⊢
      obtain ⟨n32, hw⟩ := hw
      refine am_E.junk (lo := [.ref 35, .ref 1, .ref 16, .int x2, .ref 24, am_jk, .int 0, .int 0]) ?_ (am_le.cons (am_le.cons (am_le.cons (am_le.cons (am_le.cons (am_le.jk (am_le.cons (am_le.cons am_le.nil))))))))
      refine sl_92_32 n32 hw (fun o4 I5 hw => ?_) hK
      · try dsimp only at hw
        refine am_E.run [] 2000 (show (((1 : Int32) = 0 ∨ (1 : Int32) = 1) ∧ Q (some (.int 1)) (N, am_ts T, I5, L, am_rs r)) from ?_)
        exact ⟨Or.inr rfl, hK _ _ hw⟩
/-- KeyKeepers$Prison.placeBeyond(II[I)I -/
def w_95 (x0 : Int32) (x1 : Int32) (x2 : Nat) (T : Nat → Nat × Nat) (r : Nat → Nat → Option Nat) (I : am_I) (K : Int32 → Prop) : Prop :=
  w_96 x0 x1 x2 T r I (fun q1 =>
    if q1 = 0 then
      K (-1)
    else
      ((am_ts T x2).1 = 20) ∧
      ¬ (x0 < 0 ∨ (am_ts T x2).2 ≤ Int32.toNatClampNeg x0) ∧
      ¬ (x1 < 0 ∨ 12 ≤ Int32.toNatClampNeg x1) ∧
      if (I x2 (Int32.toNatClampNeg x0)) = (I 2 (Int32.toNatClampNeg x1)) then
        ¬ (x1 < 0 ∨ 12 ≤ Int32.toNatClampNeg x1) ∧
        K (I 3 (Int32.toNatClampNeg x1))
      else
        ((am_ts T x2).1 = 20) ∧
        ¬ (x0 < 0 ∨ (am_ts T x2).2 ≤ Int32.toNatClampNeg x0) ∧
        ¬ (x1 < 0 ∨ 12 ≤ Int32.toNatClampNeg x1) ∧
        if (I x2 (Int32.toNatClampNeg x0)) = (I 3 (Int32.toNatClampNeg x1)) then
          ¬ (x1 < 0 ∨ 12 ≤ Int32.toNatClampNeg x1) ∧
          K (I 2 (Int32.toNatClampNeg x1))
        else
          K (-1))
set_option maxRecDepth 100000 in
theorem s_95 {S : am_S} {d : Nat} {N : Nat} {T : Nat → Nat × Nat} {I : am_I} {L : am_J} {r : Nat → Nat → Option Nat} {Q : am_Q} {x0 : Int32} {x1 : Int32} {x2 : Nat} {K : Int32 → Prop} (hw : w_95 x0 x1 x2 T r I K) (hK : ∀ (q : Int32), K q → Q (some (.int q)) (N, am_ts T, I, L, am_rs r)) : am_E S 95 (d + 2) 0 0 0 [.ref 1, .int x0, .int x1, .ref x2] [] (N, am_ts T, I, L, am_rs r) Q := by
  unfold w_95 at hw
  try dsimp only at hw
  refine am_E.run [4] 2000 (show (am_E S 95 (d + 2) 0 0 4 [.ref 1, .int x0, .int x1, .ref x2] [.ref x2, .int x1, .int x0, .ref 1] (N, am_ts T, I, L, am_rs r) Q) from ?_)
  refine am_E.go ⟨am_ki_ N T I L r _, s_96 hw (fun q1 hk => ⟨q1, rfl, rfl, hk⟩), ?_⟩
  intro v h9 hv
  obtain ⟨q1, rfl, rfl, hw⟩ := hv
  try dsimp only at hw
  refine am_E.run [] 2000 (show (if q1 = 0 then (True ∧ Q (some (.int (-1))) (N, am_ts T, I, L, am_rs r)) else (if (am_ts T x2).1 = 20 then (if x0 < 0 ∨ (am_ts T x2).2 ≤ Int32.toNatClampNeg x0 then False else (if x1 < 0 ∨ 12 ≤ Int32.toNatClampNeg x1 then False else (if (I x2 (Int32.toNatClampNeg x0)) = (I 2 (Int32.toNatClampNeg x1)) then (if x1 < 0 ∨ 12 ≤ Int32.toNatClampNeg x1 then False else (True ∧ Q (some (.int (I 3 (Int32.toNatClampNeg x1)))) (N, am_ts T, I, L, am_rs r))) else (if (am_ts T x2).1 = 20 then (if x0 < 0 ∨ (am_ts T x2).2 ≤ Int32.toNatClampNeg x0 then False else (if x1 < 0 ∨ 12 ≤ Int32.toNatClampNeg x1 then False else (if (I x2 (Int32.toNatClampNeg x0)) = (I 3 (Int32.toNatClampNeg x1)) then (if x1 < 0 ∨ 12 ≤ Int32.toNatClampNeg x1 then False else (True ∧ Q (some (.int (I 2 (Int32.toNatClampNeg x1)))) (N, am_ts T, I, L, am_rs r))) else (True ∧ Q (some (.int (-1))) (N, am_ts T, I, L, am_rs r))))) else False)))) else False)) from ?_)
  by_cases hc : q1 = 0
  · rw [if_pos hc] at hw ⊢
    exact ⟨trivial, hK _ hw⟩
  · rw [if_neg hc] at hw ⊢
    refine am_ifp hw.1 ?_
    replace hw := hw.2
    refine am_ifn hw.1 ?_
    replace hw := hw.2
    refine am_ifn hw.1 ?_
    replace hw := hw.2
    by_cases hc : (I x2 (Int32.toNatClampNeg x0)) = (I 2 (Int32.toNatClampNeg x1))
    · rw [if_pos hc] at hw ⊢
      refine am_ifn hw.1 ?_
      replace hw := hw.2
      exact ⟨trivial, hK _ hw⟩
    · rw [if_neg hc] at hw ⊢
      refine am_ifp hw.1 ?_
      replace hw := hw.2
      refine am_ifn hw.1 ?_
      replace hw := hw.2
      refine am_ifn hw.1 ?_
      replace hw := hw.2
      by_cases hc : (I x2 (Int32.toNatClampNeg x0)) = (I 3 (Int32.toNatClampNeg x1))
      · rw [if_pos hc] at hw ⊢
        refine am_ifn hw.1 ?_
        replace hw := hw.2
        exact ⟨trivial, hK _ hw⟩
      · rw [if_neg hc] at hw ⊢
        exact ⟨trivial, hK _ hw⟩
/-- KeyKeepers$Goings.keep(IIIII)V -/
def w_97 (x0 : Int32) (x1 : Int32) (x2 : Int32) (x3 : Int32) (x4 : Int32) (T : Nat → Nat × Nat) (r : Nat → Nat → Option Nat) (I : am_I) (K : am_I → Prop) : Prop :=
  if (I 29 0) < 16 then
    ¬ ((I 29 0) < 0 ∨ 16 ≤ Int32.toNatClampNeg (I 29 0)) ∧
    ¬ ((I 29 0) < 0 ∨ 16 ≤ Int32.toNatClampNeg (I 29 0)) ∧
    ¬ ((I 29 0) < 0 ∨ 16 ≤ Int32.toNatClampNeg (I 29 0)) ∧
    ¬ ((I 29 0) < 0 ∨ 16 ≤ Int32.toNatClampNeg (I 29 0)) ∧
    ¬ ((I 29 0) < 0 ∨ 16 ≤ Int32.toNatClampNeg (I 29 0)) ∧
    K (am_u (am_u (am_u (am_u (am_u (am_u I 30 (Int32.toNatClampNeg (I 29 0)) x0) 31 (Int32.toNatClampNeg (I 29 0)) x1) 32 (Int32.toNatClampNeg (I 29 0)) x2) 33 (Int32.toNatClampNeg (I 29 0)) x3) 34 (Int32.toNatClampNeg (I 29 0)) x4) 29 0 ((I 29 0) + 1))
  else
    w_98 T r I (fun I1 =>
      ¬ ((I1 29 0) < 0 ∨ 16 ≤ Int32.toNatClampNeg (I1 29 0)) ∧
      ¬ ((I1 29 0) < 0 ∨ 16 ≤ Int32.toNatClampNeg (I1 29 0)) ∧
      ¬ ((I1 29 0) < 0 ∨ 16 ≤ Int32.toNatClampNeg (I1 29 0)) ∧
      ¬ ((I1 29 0) < 0 ∨ 16 ≤ Int32.toNatClampNeg (I1 29 0)) ∧
      ¬ ((I1 29 0) < 0 ∨ 16 ≤ Int32.toNatClampNeg (I1 29 0)) ∧
      K (am_u (am_u (am_u (am_u (am_u (am_u I1 30 (Int32.toNatClampNeg (I1 29 0)) x0) 31 (Int32.toNatClampNeg (I1 29 0)) x1) 32 (Int32.toNatClampNeg (I1 29 0)) x2) 33 (Int32.toNatClampNeg (I1 29 0)) x3) 34 (Int32.toNatClampNeg (I1 29 0)) x4) 29 0 ((I1 29 0) + 1)))
set_option maxRecDepth 100000 in
theorem s_97 {S : am_S} {d : Nat} {N : Nat} {T : Nat → Nat × Nat} {I : am_I} {L : am_J} {r : Nat → Nat → Option Nat} {Q : am_Q} {x0 : Int32} {x1 : Int32} {x2 : Int32} {x3 : Int32} {x4 : Int32} {K : am_I → Prop} (hw : w_97 x0 x1 x2 x3 x4 T r I K) (hK : ∀ (I1 : am_I), K I1 → Q (none) (N, am_ts T, I1, L, am_rs r)) : am_E S 97 (d + 2) 0 0 0 [.ref 29, .int x0, .int x1, .int x2, .int x3, .int x4] [] (N, am_ts T, I, L, am_rs r) Q := by
  unfold w_97 at hw
  try dsimp only at hw
  refine am_E.run [10] 2000 (show (if (I 29 0) < 16 then (if (I 29 0) < 0 ∨ 16 ≤ Int32.toNatClampNeg (I 29 0) then False else (if (I 29 0) < 0 ∨ 16 ≤ Int32.toNatClampNeg (I 29 0) then False else (if (I 29 0) < 0 ∨ 16 ≤ Int32.toNatClampNeg (I 29 0) then False else (if (I 29 0) < 0 ∨ 16 ≤ Int32.toNatClampNeg (I 29 0) then False else (if (I 29 0) < 0 ∨ 16 ≤ Int32.toNatClampNeg (I 29 0) then False else (True ∧ Q (none) (N, am_ts T, (am_u (am_u (am_u (am_u (am_u (am_u I 30 (Int32.toNatClampNeg (I 29 0)) x0) 31 (Int32.toNatClampNeg (I 29 0)) x1) 32 (Int32.toNatClampNeg (I 29 0)) x2) 33 (Int32.toNatClampNeg (I 29 0)) x3) 34 (Int32.toNatClampNeg (I 29 0)) x4) 29 0 ((I 29 0) + 1)), L, am_rs r))))))) else (am_E S 97 (d + 2) 0 0 10 [.ref 29, .int x0, .int x1, .int x2, .int x3, .int x4] [.ref 29] (N, am_ts T, I, L, am_rs r) Q)) from ?_)
  by_cases hc : (I 29 0) < 16
  · rw [if_pos hc] at hw ⊢
    refine am_ifn hw.1 ?_
    replace hw := hw.2
    refine am_ifn hw.1 ?_
    replace hw := hw.2
    refine am_ifn hw.1 ?_
    replace hw := hw.2
    refine am_ifn hw.1 ?_
    replace hw := hw.2
    refine am_ifn hw.1 ?_
    replace hw := hw.2
    exact ⟨trivial, hK _ hw⟩
  · rw [if_neg hc] at hw ⊢
    refine am_E.go ⟨am_kv_I N T L r _, s_98 hw (fun I1 hk => ⟨I1, rfl, rfl, hk⟩), ?_⟩
    intro v h9 hv
    obtain ⟨I1, rfl, rfl, hw⟩ := hv
    try dsimp only at hw
    refine am_E.run [] 2000 (show (if (I1 29 0) < 0 ∨ 16 ≤ Int32.toNatClampNeg (I1 29 0) then False else (if (I1 29 0) < 0 ∨ 16 ≤ Int32.toNatClampNeg (I1 29 0) then False else (if (I1 29 0) < 0 ∨ 16 ≤ Int32.toNatClampNeg (I1 29 0) then False else (if (I1 29 0) < 0 ∨ 16 ≤ Int32.toNatClampNeg (I1 29 0) then False else (if (I1 29 0) < 0 ∨ 16 ≤ Int32.toNatClampNeg (I1 29 0) then False else (True ∧ Q (none) (N, am_ts T, (am_u (am_u (am_u (am_u (am_u (am_u I1 30 (Int32.toNatClampNeg (I1 29 0)) x0) 31 (Int32.toNatClampNeg (I1 29 0)) x1) 32 (Int32.toNatClampNeg (I1 29 0)) x2) 33 (Int32.toNatClampNeg (I1 29 0)) x3) 34 (Int32.toNatClampNeg (I1 29 0)) x4) 29 0 ((I1 29 0) + 1)), L, am_rs r))))))) from ?_)
    refine am_ifn hw.1 ?_
    replace hw := hw.2
    refine am_ifn hw.1 ?_
    replace hw := hw.2
    refine am_ifn hw.1 ?_
    replace hw := hw.2
    refine am_ifn hw.1 ?_
    replace hw := hw.2
    refine am_ifn hw.1 ?_
    replace hw := hw.2
    exact ⟨trivial, hK _ hw⟩
/-- KeyKeepers$Goings.hand(LKeyKeepers$Prison;III)I -/
def w_99 (x1 : Int32) (x2 : Int32) (x3 : Int32) (T : Nat → Nat × Nat) (r : Nat → Nat → Option Nat) (I : am_I) (K : Int32 → am_I → Prop) : Prop :=
  if (f_19 x1 I) = 0 then
    K (-2) I
  else
    if (f_27 x2 I) = 0 then
      K (-2) I
    else
      if (f_27 x3 I) = 0 then
        K (-2) I
      else
        if x2 = x3 then
          K (-3) I
        else
          ¬ (x2 < 0 ∨ 8 ≤ Int32.toNatClampNeg x2) ∧
          ¬ (x3 < 0 ∨ 8 ≤ Int32.toNatClampNeg x3) ∧
          if (I 6 (Int32.toNatClampNeg x2)) = (I 6 (Int32.toNatClampNeg x3)) then
            ¬ (x2 < 0 ∨ 8 ≤ Int32.toNatClampNeg x2) ∧
            if (f_20 (I 7 (Int32.toNatClampNeg x2)) x1) = 0 then
              K (-3) I
            else
              ¬ (x2 < 0 ∨ 8 ≤ Int32.toNatClampNeg x2) ∧
              if (f_20 (I 8 (Int32.toNatClampNeg x2)) x3) = 0 then
                K (-3) I
              else
                ¬ (x2 < 0 ∨ 8 ≤ Int32.toNatClampNeg x2) ∧
                ¬ (x3 < 0 ∨ 8 ≤ Int32.toNatClampNeg x3) ∧
                w_97 1 x2 (I 7 (Int32.toNatClampNeg x2)) x3 (I 7 (Int32.toNatClampNeg x3)) T r I (fun I1 =>
                  ¬ (x2 < 0 ∨ 8 ≤ Int32.toNatClampNeg x2) ∧
                  ¬ (x2 < 0 ∨ 8 ≤ Int32.toNatClampNeg x2) ∧
                  ¬ (x3 < 0 ∨ 8 ≤ Int32.toNatClampNeg x3) ∧
                  ¬ (x3 < 0 ∨ 8 ≤ Int32.toNatClampNeg x3) ∧
                  K 0 (am_u (am_u I1 7 (Int32.toNatClampNeg x2) (f_21 (I1 7 (Int32.toNatClampNeg x2)) x1 0)) 7 (Int32.toNatClampNeg x3) (f_21 ((am_u I1 7 (Int32.toNatClampNeg x2) (f_21 (I1 7 (Int32.toNatClampNeg x2)) x1 0)) 7 (Int32.toNatClampNeg x3)) x1 1)))
          else
            K (-3) I
set_option maxRecDepth 100000 in
theorem s_99 {S : am_S} {d : Nat} {N : Nat} {T : Nat → Nat × Nat} {I : am_I} {L : am_J} {r : Nat → Nat → Option Nat} {Q : am_Q} {x1 : Int32} {x2 : Int32} {x3 : Int32} {K : Int32 → am_I → Prop} (hw : w_99 x1 x2 x3 T r I K) (hK : ∀ (q : Int32) (I1 : am_I), K q I1 → Q (some (.int q)) (N, am_ts T, I1, L, am_rs r)) : am_E S 99 (d + 3) 0 0 0 [.ref 29, .ref 1, .int x1, .int x2, .int x3, am_jk] [] (N, am_ts T, I, L, am_rs r) Q := by
  unfold w_99 at hw
  try dsimp only at hw
  refine am_E.run [2] 2000 (show (am_E S 99 (d + 3) 0 0 2 [.ref 29, .ref 1, .int x1, .int x2, .int x3, am_jk] [.int x1, .ref 1] (N, am_ts T, I, L, am_rs r) Q) from ?_)
  refine am_E.go ⟨fun v h9 => v = some (.int (f_19 x1 I)) ∧ h9 = (N, am_ts T, I, L, am_rs r), s_19 ⟨rfl, rfl⟩, ?_⟩
  intro v h9 hv
  obtain ⟨rfl, rfl⟩ := hv
  refine am_E.run [10] 2000 (show (if (f_19 x1 I) = 0 then (True ∧ Q (some (.int (-2))) (N, am_ts T, I, L, am_rs r)) else (am_E S 99 (d + 3) 0 0 10 [.ref 29, .ref 1, .int x1, .int x2, .int x3, am_jk] [.int x2, .ref 1] (N, am_ts T, I, L, am_rs r) Q)) from ?_)
  by_cases hc : (f_19 x1 I) = 0
  · rw [if_pos hc] at hw ⊢
    exact ⟨trivial, hK _ _ hw⟩
  · rw [if_neg hc] at hw ⊢
    refine am_E.go ⟨fun v h9 => v = some (.int (f_27 x2 I)) ∧ h9 = (N, am_ts T, I, L, am_rs r), s_27 ⟨rfl, rfl⟩, ?_⟩
    intro v h9 hv
    obtain ⟨rfl, rfl⟩ := hv
    refine am_E.run [19] 2000 (show (if (f_27 x2 I) = 0 then (True ∧ Q (some (.int (-2))) (N, am_ts T, I, L, am_rs r)) else (am_E S 99 (d + 3) 0 0 19 [.ref 29, .ref 1, .int x1, .int x2, .int x3, am_jk] [.int x3, .ref 1] (N, am_ts T, I, L, am_rs r) Q)) from ?_)
    by_cases hc : (f_27 x2 I) = 0
    · rw [if_pos hc] at hw ⊢
      exact ⟨trivial, hK _ _ hw⟩
    · rw [if_neg hc] at hw ⊢
      refine am_E.go ⟨fun v h9 => v = some (.int (f_27 x3 I)) ∧ h9 = (N, am_ts T, I, L, am_rs r), s_27 ⟨rfl, rfl⟩, ?_⟩
      intro v h9 hv
      obtain ⟨rfl, rfl⟩ := hv
      refine am_E.run [69] 2000 (show (if (f_27 x3 I) = 0 then (True ∧ Q (some (.int (-2))) (N, am_ts T, I, L, am_rs r)) else (if x2 = x3 then (True ∧ Q (some (.int (-3))) (N, am_ts T, I, L, am_rs r)) else (if x2 < 0 ∨ 8 ≤ Int32.toNatClampNeg x2 then False else (if x3 < 0 ∨ 8 ≤ Int32.toNatClampNeg x3 then False else (if (I 6 (Int32.toNatClampNeg x2)) = (I 6 (Int32.toNatClampNeg x3)) then (if x2 < 0 ∨ 8 ≤ Int32.toNatClampNeg x2 then False else (am_E S 99 (d + 3) 0 0 69 [.ref 29, .ref 1, .int x1, .int x2, .int x3, .int 1] [.int x1, .int (I 7 (Int32.toNatClampNeg x2))] (N, am_ts T, I, L, am_rs r) Q)) else (True ∧ Q (some (.int (-3))) (N, am_ts T, I, L, am_rs r))))))) from ?_)
      by_cases hc : (f_27 x3 I) = 0
      · rw [if_pos hc] at hw ⊢
        exact ⟨trivial, hK _ _ hw⟩
      · rw [if_neg hc] at hw ⊢
        by_cases hc : x2 = x3
        · rw [if_pos hc] at hw ⊢
          exact ⟨trivial, hK _ _ hw⟩
        · rw [if_neg hc] at hw ⊢
          refine am_ifn hw.1 ?_
          replace hw := hw.2
          refine am_ifn hw.1 ?_
          replace hw := hw.2
          by_cases hc : (I 6 (Int32.toNatClampNeg x2)) = (I 6 (Int32.toNatClampNeg x3))
          · rw [if_pos hc] at hw ⊢
            refine am_ifn hw.1 ?_
            replace hw := hw.2
            refine am_E.go ⟨fun v h9 => v = some (.int (f_20 (I 7 (Int32.toNatClampNeg x2)) x1)) ∧ h9 = (N, am_ts T, I, L, am_rs r), s_20 ⟨rfl, rfl⟩, ?_⟩
            intro v h9 hv
            obtain ⟨rfl, rfl⟩ := hv
            refine am_E.run [83] 2000 (show (if (f_20 (I 7 (Int32.toNatClampNeg x2)) x1) = 0 then (True ∧ Q (some (.int (-3))) (N, am_ts T, I, L, am_rs r)) else (if x2 < 0 ∨ 8 ≤ Int32.toNatClampNeg x2 then False else (am_E S 99 (d + 3) 0 0 83 [.ref 29, .ref 1, .int x1, .int x2, .int x3, .int 1] [.int x3, .int (I 8 (Int32.toNatClampNeg x2))] (N, am_ts T, I, L, am_rs r) Q))) from ?_)
            by_cases hc : (f_20 (I 7 (Int32.toNatClampNeg x2)) x1) = 0
            · rw [if_pos hc] at hw ⊢
              exact ⟨trivial, hK _ _ hw⟩
            · rw [if_neg hc] at hw ⊢
              refine am_ifn hw.1 ?_
              replace hw := hw.2
              refine am_E.go ⟨fun v h9 => v = some (.int (f_20 (I 8 (Int32.toNatClampNeg x2)) x3)) ∧ h9 = (N, am_ts T, I, L, am_rs r), s_20 ⟨rfl, rfl⟩, ?_⟩
              intro v h9 hv
              obtain ⟨rfl, rfl⟩ := hv
              refine am_E.run [110] 2000 (show (if (f_20 (I 8 (Int32.toNatClampNeg x2)) x3) = 0 then (True ∧ Q (some (.int (-3))) (N, am_ts T, I, L, am_rs r)) else (if x2 < 0 ∨ 8 ≤ Int32.toNatClampNeg x2 then False else (if x3 < 0 ∨ 8 ≤ Int32.toNatClampNeg x3 then False else (am_E S 99 (d + 3) 0 0 110 [.ref 29, .ref 1, .int x1, .int x2, .int x3, .int 1] [.int (I 7 (Int32.toNatClampNeg x3)), .int x3, .int (I 7 (Int32.toNatClampNeg x2)), .int x2, .int 1, .ref 29] (N, am_ts T, I, L, am_rs r) Q)))) from ?_)
              by_cases hc : (f_20 (I 8 (Int32.toNatClampNeg x2)) x3) = 0
              · rw [if_pos hc] at hw ⊢
                exact ⟨trivial, hK _ _ hw⟩
              · rw [if_neg hc] at hw ⊢
                refine am_ifn hw.1 ?_
                replace hw := hw.2
                refine am_ifn hw.1 ?_
                replace hw := hw.2
                refine am_E.go ⟨am_kv_I N T L r _, s_97 hw (fun I1 hk => ⟨I1, rfl, rfl, hk⟩), ?_⟩
                intro v h9 hv
                obtain ⟨I1, rfl, rfl, hw⟩ := hv
                try dsimp only at hw
                refine am_E.run [126] 2000 (show (if x2 < 0 ∨ 8 ≤ Int32.toNatClampNeg x2 then False else (am_E S 99 (d + 3) 0 0 126 [.ref 29, .ref 1, .int x1, .int x2, .int x3, .int 1] [.int 0, .int x1, .int (I1 7 (Int32.toNatClampNeg x2)), .int x2, .ref 7] (N, am_ts T, I1, L, am_rs r) Q)) from ?_)
                refine am_ifn hw.1 ?_
                replace hw := hw.2
                refine am_E.go ⟨fun v h9 => v = some (.int (f_21 (I1 7 (Int32.toNatClampNeg x2)) x1 0)) ∧ h9 = (N, am_ts T, I1, L, am_rs r), s_21 ⟨rfl, rfl⟩, ?_⟩
                intro v h9 hv
                obtain ⟨rfl, rfl⟩ := hv
                refine am_E.run [145] 2000 (show (if x2 < 0 ∨ 8 ≤ Int32.toNatClampNeg x2 then False else (if x3 < 0 ∨ 8 ≤ Int32.toNatClampNeg x3 then False else (am_E S 99 (d + 3) 0 0 145 [.ref 29, .ref 1, .int x1, .int x2, .int x3, .int 1] [.int 1, .int x1, .int ((am_u I1 7 (Int32.toNatClampNeg x2) (f_21 (I1 7 (Int32.toNatClampNeg x2)) x1 0)) 7 (Int32.toNatClampNeg x3)), .int x3, .ref 7] (N, am_ts T, (am_u I1 7 (Int32.toNatClampNeg x2) (f_21 (I1 7 (Int32.toNatClampNeg x2)) x1 0)), L, am_rs r) Q))) from ?_)
                refine am_ifn hw.1 ?_
                replace hw := hw.2
                refine am_ifn hw.1 ?_
                replace hw := hw.2
                refine am_E.go ⟨fun v h9 => v = some (.int (f_21 ((am_u I1 7 (Int32.toNatClampNeg x2) (f_21 (I1 7 (Int32.toNatClampNeg x2)) x1 0)) 7 (Int32.toNatClampNeg x3)) x1 1)) ∧ h9 = (N, am_ts T, (am_u I1 7 (Int32.toNatClampNeg x2) (f_21 (I1 7 (Int32.toNatClampNeg x2)) x1 0)), L, am_rs r), s_21 ⟨rfl, rfl⟩, ?_⟩
                intro v h9 hv
                obtain ⟨rfl, rfl⟩ := hv
                refine am_E.run [] 2000 (show (if x3 < 0 ∨ 8 ≤ Int32.toNatClampNeg x3 then False else (True ∧ Q (some (.int 0)) (N, am_ts T, (am_u (am_u I1 7 (Int32.toNatClampNeg x2) (f_21 (I1 7 (Int32.toNatClampNeg x2)) x1 0)) 7 (Int32.toNatClampNeg x3) (f_21 ((am_u I1 7 (Int32.toNatClampNeg x2) (f_21 (I1 7 (Int32.toNatClampNeg x2)) x1 0)) 7 (Int32.toNatClampNeg x3)) x1 1)), L, am_rs r))) from ?_)
                refine am_ifn hw.1 ?_
                replace hw := hw.2
                exact ⟨trivial, hK _ _ hw⟩
          · rw [if_neg hc] at hw ⊢
            exact ⟨trivial, hK _ _ hw⟩
