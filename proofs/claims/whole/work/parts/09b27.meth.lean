def lw_138_10 : Nat → Nat → Int32 → (Nat → Nat × Nat) → (Nat → Nat → Option Nat) → am_I → (Int32 → am_I → Prop) → Prop
  | 0, _, _, _, _, _, _ => False
  | n + 1, v0, v3, T, r, I, E0 =>
    if v3 < 0 then
      E0 v3 I
    else
      (am_ts T v0).1 = 9 ∧ ∃ c2, (am_rs r v0 5) = some c2 ∧
      ((am_ts T c2).1 = 20) ∧
      ¬ (v3 < 0 ∨ (am_ts T c2).2 ≤ Int32.toNatClampNeg v3) ∧
      if (I 1 10) ≤ (I c2 (Int32.toNatClampNeg v3)) then
        lw_138_10 n v0 (v3 + (-1)) T r I E0
      else
        ((am_ts T v0).1 = 9) ∧
        w_140 v0 v3 T r I (fun I3 =>
          lw_138_10 n v0 (v3 + (-1)) T r I3 E0)
set_option maxRecDepth 100000 in
theorem sl_138_10 {S : am_S} {d : Nat} {Q : am_Q} {N : Nat} {T : Nat → Nat × Nat} {L : am_J} {r : Nat → Nat → Option Nat} {E0 : Int32 → am_I → Prop} : ∀ (n : Nat) {v0 : Nat} {v3 : Int32} {I : am_I}, lw_138_10 n v0 v3 T r I E0 → (∀ (o3 : Int32) (I1 : am_I), E0 o3 I1 → am_E S 138 (d + 5) 0 0 39 [.ref v0, .ref 1, am_jk, .int o3] [] (N, am_ts T, I1, L, am_rs r) Q) → am_E S 138 (d + 5) 0 0 10 [.ref v0, .ref 1, am_jk, .int v3] [] (N, am_ts T, I, L, am_rs r) Q
  | 0, _, _, _, hw, _ => hw.elim
  | n + 1, v0, v3, I, hw, hE0 => by
    have ih := @sl_138_10 S d Q N T L r E0 n
    unfold lw_138_10 at hw
    try dsimp only at hw
    refine am_E.run [18, 39] 2000 (show (if v3 < 0 then (am_E S 138 (d + 5) 0 0 39 [.ref v0, .ref 1, am_jk, .int v3] [] (N, am_ts T, I, L, am_rs r) Q) else (if (am_ts T v0).1 = 9 ∧ 2 < 4 then (am_E S 138 (d + 5) 0 0 18 [.ref v0, .ref 1, am_jk, .int v3] [am_rv (am_rs r v0 5)] (N, am_ts T, I, L, am_rs r) Q) else False)) from ?_)
    by_cases hc : v3 < 0
    · rw [if_pos hc] at hw ⊢
      exact hE0 _ _ hw
    · rw [if_neg hc] at hw ⊢
      refine am_ifp ⟨hw.1, by decide⟩ ?_
      replace hw := hw.2
      obtain ⟨c2, hx, hw⟩ := hw
      rw [hx]
      refine am_E.run [10, 30] 2000 (show (if (am_ts T c2).1 = 20 then (if v3 < 0 ∨ (am_ts T c2).2 ≤ Int32.toNatClampNeg v3 then False else (if (I 1 10) ≤ (I c2 (Int32.toNatClampNeg v3)) then (am_E S 138 (d + 5) 0 0 10 [.ref v0, .ref 1, am_jk, .int (v3 + (-1))] [] (N, am_ts T, I, L, am_rs r) Q) else (am_E S 138 (d + 5) 0 0 30 [.ref v0, .ref 1, am_jk, .int v3] [.int v3, .ref 1, .ref v0] (N, am_ts T, I, L, am_rs r) Q))) else False) from ?_)
      refine am_ifp hw.1 ?_
      replace hw := hw.2
      refine am_ifn hw.1 ?_
      replace hw := hw.2
      by_cases hc : (I 1 10) ≤ (I c2 (Int32.toNatClampNeg v3))
      · rw [if_pos hc] at hw ⊢
        exact ih hw hE0
      · rw [if_neg hc] at hw ⊢
        refine am_E.go (show (if (List.length (List.take 2 [.int v3, .ref 1, .ref v0]) = 2 ∧ (am_ts T v0).1 = 9) then _ else False) from ?_)
        refine am_ifp ⟨rfl, hw.1⟩ ?_
        replace hw := hw.2
        refine ⟨am_kv_I N T L r _, s_140 hw (fun I3 hk => ⟨I3, rfl, rfl, hk⟩), ?_⟩
        intro v h9 hv
        obtain ⟨I3, rfl, rfl, hw⟩ := hv
        try dsimp only at hw
        refine am_E.run [10] 2000 (show (am_E S 138 (d + 5) 0 0 10 [.ref v0, .ref 1, am_jk, .int (v3 + (-1))] [] (N, am_ts T, I3, L, am_rs r) Q) from ?_)
        exact ih hw hE0
/-- KeyKeepers$Rota.plan(LKeyKeepers$Prison;LKeyKeepers$Judge;)V -/
def w_138 (a : Nat) (T : Nat → Nat × Nat) (r : Nat → Nat → Option Nat) (I : am_I) (K : am_I → Prop) : Prop :=
  ((am_ts T a).1 = 9) ∧
  w_139 a T r I (fun I1 =>
    ∃ n10, lw_138_10 n10 a 494 T r I1 (fun o4 I5 =>
      ((am_ts T a).1 = 9) ∧
      if ((am_u I5 a 1 0) 1 10) ≤ 0 then
        ((am_ts T a).1 = 9) ∧
        if ((am_u I5 a 1 0) a 1) ≤ 0 then
          K (am_u I5 a 1 0)
        else
          ((am_ts T a).1 = 9) ∧
          w_143 a T r (am_u I5 a 1 0) (fun I6 =>
            K I6)
      else
        ((am_ts T a).1 = 9) ∧
        w_142 a 0 0 (-1) T r (am_u I5 a 1 0) (fun I7 =>
          ((am_ts T a).1 = 9) ∧
          if (I7 a 1) ≤ 0 then
            K I7
          else
            ((am_ts T a).1 = 9) ∧
            w_143 a T r I7 (fun I8 =>
              K I8))))
set_option maxRecDepth 100000 in
theorem s_138 {S : am_S} {d : Nat} {N : Nat} {T : Nat → Nat × Nat} {I : am_I} {L : am_J} {r : Nat → Nat → Option Nat} {Q : am_Q} {a : Nat} {K : am_I → Prop} (hw : w_138 a T r I K) (hK : ∀ (I1 : am_I), K I1 → Q (none) (N, am_ts T, I1, L, am_rs r)) : am_E S 138 (d + 5) 0 0 0 [.ref a, .ref 1, .ref 23, am_jk] [] (N, am_ts T, I, L, am_rs r) Q := by
  unfold w_138 at hw
  try dsimp only at hw
  refine am_E.run [3] 2000 (show (am_E S 138 (d + 5) 0 0 3 [.ref a, .ref 1, .ref 23, am_jk] [.ref 23, .ref 1, .ref a] (N, am_ts T, I, L, am_rs r) Q) from ?_)
  refine am_E.go (show (if (List.length (List.take 2 [.ref 23, .ref 1, .ref a]) = 2 ∧ (am_ts T a).1 = 9) then _ else False) from ?_)
  refine am_ifp ⟨rfl, hw.1⟩ ?_
  replace hw := hw.2
  refine ⟨am_kv_I N T L r _, s_139 hw (fun I1 hk => ⟨I1, rfl, rfl, hk⟩), ?_⟩
  intro v h9 hv
  obtain ⟨I1, rfl, rfl, hw⟩ := hv
  try dsimp only at hw
  refine am_E.run [10] 2000 (show (am_E S 138 (d + 5) 0 0 10 [.ref a, .ref 1, .ref 23, .int 494] [] (N, am_ts T, I1, L, am_rs r) Q) from ?_)
  obtain ⟨n10, hw⟩ := hw
  refine am_E.junk (lo := [.ref a, .ref 1, am_jk, .int 494]) ?_ (am_le.cons (am_le.cons (am_le.jk (am_le.cons am_le.nil))))
  refine sl_138_10 n10 hw (fun o4 I5 hw => ?_)
  · try dsimp only at hw
    refine am_E.run [56, 68] 2000 (show (if (am_ts T a).1 = 9 then (if ((am_u I5 a 1 0) 1 10) ≤ 0 then (if (am_ts T a).1 = 9 ∧ 0 < 4 then (if ((am_u I5 a 1 0) a 1) ≤ 0 then (True ∧ Q (none) (N, am_ts T, (am_u I5 a 1 0), L, am_rs r)) else (am_E S 138 (d + 5) 0 0 68 [.ref a, .ref 1, am_jk, .int o4] [.ref 1, .ref a] (N, am_ts T, (am_u I5 a 1 0), L, am_rs r) Q)) else False) else (am_E S 138 (d + 5) 0 0 56 [.ref a, .ref 1, am_jk, .int o4] [.int (-1), .int 0, .int 0, .ref 1, .ref a] (N, am_ts T, (am_u I5 a 1 0), L, am_rs r) Q)) else False) from ?_)
    refine am_ifp hw.1 ?_
    replace hw := hw.2
    by_cases hc : ((am_u I5 a 1 0) 1 10) ≤ 0
    · rw [if_pos hc] at hw ⊢
      refine am_ifp ⟨hw.1, by decide⟩ ?_
      replace hw := hw.2
      by_cases hc : ((am_u I5 a 1 0) a 1) ≤ 0
      · rw [if_pos hc] at hw ⊢
        exact ⟨trivial, hK _ hw⟩
      · rw [if_neg hc] at hw ⊢
        refine am_E.go (show (if (List.length (List.take 1 [.ref 1, .ref a]) = 1 ∧ (am_ts T a).1 = 9) then _ else False) from ?_)
        refine am_ifp ⟨rfl, hw.1⟩ ?_
        replace hw := hw.2
        refine ⟨am_kv_I N T L r _, s_143 hw (fun I6 hk => ⟨I6, rfl, rfl, hk⟩), ?_⟩
        intro v h9 hv
        obtain ⟨I6, rfl, rfl, hw⟩ := hv
        try dsimp only at hw
        refine am_E.run [] 2000 (show (True ∧ Q (none) (N, am_ts T, I6, L, am_rs r)) from ?_)
        exact ⟨trivial, hK _ hw⟩
    · rw [if_neg hc] at hw ⊢
      refine am_E.go (show (if (List.length (List.take 4 [.int (-1), .int 0, .int 0, .ref 1, .ref a]) = 4 ∧ (am_ts T a).1 = 9) then _ else False) from ?_)
      refine am_ifp ⟨rfl, hw.1⟩ ?_
      replace hw := hw.2
      refine ⟨am_kv_I N T L r _, s_142 hw (fun I7 hk => ⟨I7, rfl, rfl, hk⟩), ?_⟩
      intro v h9 hv
      obtain ⟨I7, rfl, rfl, hw⟩ := hv
      try dsimp only at hw
      refine am_E.run [68] 2000 (show (if (am_ts T a).1 = 9 ∧ 0 < 4 then (if (I7 a 1) ≤ 0 then (True ∧ Q (none) (N, am_ts T, I7, L, am_rs r)) else (am_E S 138 (d + 5) 0 0 68 [.ref a, .ref 1, am_jk, .int o4] [.ref 1, .ref a] (N, am_ts T, I7, L, am_rs r) Q)) else False) from ?_)
      refine am_ifp ⟨hw.1, by decide⟩ ?_
      replace hw := hw.2
      by_cases hc : (I7 a 1) ≤ 0
      · rw [if_pos hc] at hw ⊢
        exact ⟨trivial, hK _ hw⟩
      · rw [if_neg hc] at hw ⊢
        refine am_E.go (show (if (List.length (List.take 1 [.ref 1, .ref a]) = 1 ∧ (am_ts T a).1 = 9) then _ else False) from ?_)
        refine am_ifp ⟨rfl, hw.1⟩ ?_
        replace hw := hw.2
        refine ⟨am_kv_I N T L r _, s_143 hw (fun I8 hk => ⟨I8, rfl, rfl, hk⟩), ?_⟩
        intro v h9 hv
        obtain ⟨I8, rfl, rfl, hw⟩ := hv
        try dsimp only at hw
        refine am_E.run [] 2000 (show (True ∧ Q (none) (N, am_ts T, I8, L, am_rs r)) from ?_)
        exact ⟨trivial, hK _ hw⟩
/-- KeyKeepers.rests(I)I -/
def w_144 (x0 : Int32) (T : Nat → Nat × Nat) (r : Nat → Nat → Option Nat) (I : am_I) (K : Int32 → am_I → Prop) : Prop :=
  if (f_18 x0) = 0 then
    K (-1) I
  else
    w_145 T r I (fun q1 I2 =>
      if q1 = 0 then
        K (-1) I2
      else
        if x0 = 0 then
          K (I2 23 1) I2
        else
          K (I2 23 2) I2)
set_option maxRecDepth 100000 in
theorem s_144 {S : am_S} {d : Nat} {N : Nat} {T : Nat → Nat × Nat} {I : am_I} {L : am_J} {r : Nat → Nat → Option Nat} {Q : am_Q} {x0 : Int32} {K : Int32 → am_I → Prop} (hw : w_144 x0 T r I K) (hK : ∀ (q : Int32) (I1 : am_I), K q I1 → Q (some (.int q)) (N, am_ts T, I1, L, am_rs r)) : am_E S 144 (d + 7) 0 0 0 [.ref 0, .int x0] [] (N, am_ts T, I, L, am_rs r) Q := by
  unfold w_144 at hw
  try dsimp only at hw
  refine am_E.run [1] 2000 (show (am_E S 144 (d + 7) 0 0 1 [.ref 0, .int x0] [.int x0] (N, am_ts T, I, L, am_rs r) Q) from ?_)
  refine am_E.go ⟨fun v h9 => v = some (.int (f_18 x0)) ∧ h9 = (N, am_ts T, I, L, am_rs r), s_18 ⟨rfl, rfl⟩, ?_⟩
  intro v h9 hv
  obtain ⟨rfl, rfl⟩ := hv
  refine am_E.run [15] 2000 (show (if (f_18 x0) = 0 then (True ∧ Q (some (.int (-1))) (N, am_ts T, I, L, am_rs r)) else (am_E S 144 (d + 7) 0 0 15 [.ref 0, .int x0] [.ref 1, .ref 23] (N, am_ts T, I, L, am_rs r) Q)) from ?_)
  by_cases hc : (f_18 x0) = 0
  · rw [if_pos hc] at hw ⊢
    exact ⟨trivial, hK _ _ hw⟩
  · rw [if_neg hc] at hw ⊢
    refine am_E.go ⟨am_ki_I N T L r _, s_145 hw (fun q1 I2 hk => ⟨q1, I2, rfl, rfl, hk⟩), ?_⟩
    intro v h9 hv
    obtain ⟨q1, I2, rfl, rfl, hw⟩ := hv
    try dsimp only at hw
    refine am_E.run [] 2000 (show (if q1 = 0 then (True ∧ Q (some (.int (-1))) (N, am_ts T, I2, L, am_rs r)) else (if x0 = 0 then (True ∧ Q (some (.int (I2 23 1))) (N, am_ts T, I2, L, am_rs r)) else (True ∧ Q (some (.int (I2 23 2))) (N, am_ts T, I2, L, am_rs r)))) from ?_)
    by_cases hc : q1 = 0
    · rw [if_pos hc] at hw ⊢
      exact ⟨trivial, hK _ _ hw⟩
    · rw [if_neg hc] at hw ⊢
      by_cases hc : x0 = 0
      · rw [if_pos hc] at hw ⊢
        exact ⟨trivial, hK _ _ hw⟩
      · rw [if_neg hc] at hw ⊢
        exact ⟨trivial, hK _ _ hw⟩
/-- KeyKeepers.next(I)I -/
def w_159 (x0 : Int32) (I : am_I) (K : Int32 → am_I → Prop) : Prop :=
  if (f_18 x0) = 0 then
    K (-1) I
  else
    if (I 1 10) = 0 then
      K (-1) I
    else
      w_157 I (fun I1 =>
        if (I1 59 1) = 0 then
          K (-1) I1
        else
          w_160 I1 (fun I2 =>
            if x0 = 0 then
              K (I2 59 2) I2
            else
              K (I2 59 3) I2))
set_option maxRecDepth 100000 in
theorem s_159 {S : am_S} {d : Nat} {N : Nat} {T : Nat → Nat × Nat} {I : am_I} {L : am_J} {r : Nat → Nat → Option Nat} {Q : am_Q} {x0 : Int32} {K : Int32 → am_I → Prop} (hw : w_159 x0 I K) (hK : ∀ (q : Int32) (I1 : am_I), K q I1 → Q (some (.int q)) (N, am_ts T, I1, L, am_rs r)) : am_E S 159 (d + 3) 0 0 0 [.ref 0, .int x0] [] (N, am_ts T, I, L, am_rs r) Q := by
  unfold w_159 at hw
  try dsimp only at hw
  refine am_E.run [1] 2000 (show (am_E S 159 (d + 3) 0 0 1 [.ref 0, .int x0] [.int x0] (N, am_ts T, I, L, am_rs r) Q) from ?_)
  refine am_E.go ⟨fun v h9 => v = some (.int (f_18 x0)) ∧ h9 = (N, am_ts T, I, L, am_rs r), s_18 ⟨rfl, rfl⟩, ?_⟩
  intro v h9 hv
  obtain ⟨rfl, rfl⟩ := hv
  refine am_E.run [27] 2000 (show (if (f_18 x0) = 0 then (True ∧ Q (some (.int (-1))) (N, am_ts T, I, L, am_rs r)) else (if (I 1 10) = 0 then (True ∧ Q (some (.int (-1))) (N, am_ts T, I, L, am_rs r)) else (am_E S 159 (d + 3) 0 0 27 [.ref 0, .int x0] [.ref 1, .ref 59] (N, am_ts T, I, L, am_rs r) Q))) from ?_)
  by_cases hc : (f_18 x0) = 0
  · rw [if_pos hc] at hw ⊢
    exact ⟨trivial, hK _ _ hw⟩
  · rw [if_neg hc] at hw ⊢
    by_cases hc : (I 1 10) = 0
    · rw [if_pos hc] at hw ⊢
      exact ⟨trivial, hK _ _ hw⟩
    · rw [if_neg hc] at hw ⊢
      refine am_E.go ⟨am_kv_I N T L r _, s_157 hw (fun I1 hk => ⟨I1, rfl, rfl, hk⟩), ?_⟩
      intro v h9 hv
      obtain ⟨I1, rfl, rfl, hw⟩ := hv
      try dsimp only at hw
      refine am_E.run [50] 2000 (show (if (I1 59 1) = 0 then (True ∧ Q (some (.int (-1))) (N, am_ts T, I1, L, am_rs r)) else (am_E S 159 (d + 3) 0 0 50 [.ref 0, .int x0] [.ref 1, .ref 59] (N, am_ts T, I1, L, am_rs r) Q)) from ?_)
      by_cases hc : (I1 59 1) = 0
      · rw [if_pos hc] at hw ⊢
        exact ⟨trivial, hK _ _ hw⟩
      · rw [if_neg hc] at hw ⊢
        refine am_E.go ⟨am_kv_I N T L r _, s_160 hw (fun I2 hk => ⟨I2, rfl, rfl, hk⟩), ?_⟩
        intro v h9 hv
        obtain ⟨I2, rfl, rfl, hw⟩ := hv
        try dsimp only at hw
        refine am_E.run [] 2000 (show (if x0 = 0 then (True ∧ Q (some (.int (I2 59 2))) (N, am_ts T, I2, L, am_rs r)) else (True ∧ Q (some (.int (I2 59 3))) (N, am_ts T, I2, L, am_rs r))) from ?_)
        by_cases hc : x0 = 0
        · rw [if_pos hc] at hw ⊢
          exact ⟨trivial, hK _ _ hw⟩
        · rw [if_neg hc] at hw ⊢
          exact ⟨trivial, hK _ _ hw⟩
def lw_164n_15 : Nat → Int32 → Int32 → (Nat → Nat × Nat) → (Nat → Nat → Option Nat) → am_I → (Int32 → Int32 → am_I → Prop) → Prop
  | 0, _, _, _, _, _, _ => False
  | n + 1, v4, v5, T, r, I, E0 =>
    if (I 1 10) ≤ v5 then
      E0 v4 v5 I
    else
      w_165n v5 I (fun q3 I4 =>
        w_165n v5 I4 (fun q5 I6 =>
          if q5 ≤ q3 then
            lw_164n_15 n v4 (v5 + 1) T r I6 E0
          else
            lw_164n_15 n (v4 ||| (1 <<< (v5 &&& 31))) (v5 + 1) T r I6 E0))
set_option maxRecDepth 100000 in
theorem sl_164n_15 {S : am_S} {d : Nat} {Q : am_Q} {N : Nat} {T : Nat → Nat × Nat} {L : am_J} {r : Nat → Nat → Option Nat} {E0 : Int32 → Int32 → am_I → Prop} : ∀ (n : Nat) {v4 : Int32} {v5 : Int32} {I : am_I}, lw_164n_15 n v4 v5 T r I E0 → (∀ (o4 : Int32) (o5 : Int32) (I1 : am_I), E0 o4 o5 I1 → am_E S 164 (d + 5) 0 0 58 [.ref 23, .ref 1, .null, .null, .int o4, .int o5] [] (N, am_ts T, I1, L, am_rs r) Q) → am_E S 164 (d + 5) 0 0 15 [.ref 23, .ref 1, .null, .null, .int v4, .int v5] [] (N, am_ts T, I, L, am_rs r) Q
  | 0, _, _, _, hw, _ => hw.elim
  | n + 1, v4, v5, I, hw, hE0 => by
    have ih := @sl_164n_15 S d Q N T L r E0 n
    unfold lw_164n_15 at hw
    try dsimp only at hw
    refine am_E.run [29, 58] 2000 (show (if (I 1 10) ≤ v5 then (am_E S 164 (d + 5) 0 0 58 [.ref 23, .ref 1, .null, .null, .int v4, .int v5] [] (N, am_ts T, I, L, am_rs r) Q) else (am_E S 164 (d + 5) 0 0 29 [.ref 23, .ref 1, .null, .null, .int v4, .int v5] [.int v5, .null, .ref 1, .ref 23] (N, am_ts T, I, L, am_rs r) Q)) from ?_)
    by_cases hc : (I 1 10) ≤ v5
    · rw [if_pos hc] at hw ⊢
      exact hE0 _ _ _ hw
    · rw [if_neg hc] at hw ⊢
      refine am_E.go ⟨am_ki_I N T L r _, s_165n hw (fun q3 I4 hk => ⟨q3, I4, rfl, rfl, hk⟩), ?_⟩
      intro v h9 hv
      obtain ⟨q3, I4, rfl, rfl, hw⟩ := hv
      try dsimp only at hw
      refine am_E.run [37] 2000 (show (am_E S 164 (d + 5) 0 0 37 [.ref 23, .ref 1, .null, .null, .int v4, .int v5] [.int v5, .null, .ref 1, .ref 23, .int q3] (N, am_ts T, I4, L, am_rs r) Q) from ?_)
      refine am_E.go ⟨am_ki_I N T L r _, s_165n hw (fun q5 I6 hk => ⟨q5, I6, rfl, rfl, hk⟩), ?_⟩
      intro v h9 hv
      obtain ⟨q5, I6, rfl, rfl, hw⟩ := hv
      try dsimp only at hw
      refine am_E.run [15] 2000 (show (if q5 ≤ q3 then (am_E S 164 (d + 5) 0 0 15 [.ref 23, .ref 1, .null, .null, .int v4, .int (v5 + 1)] [] (N, am_ts T, I6, L, am_rs r) Q) else (am_E S 164 (d + 5) 0 0 15 [.ref 23, .ref 1, .null, .null, .int (v4 ||| (1 <<< (v5 &&& 31))), .int (v5 + 1)] [] (N, am_ts T, I6, L, am_rs r) Q)) from ?_)
      by_cases hc : q5 ≤ q3
      · rw [if_pos hc] at hw ⊢
        exact ih hw hE0
      · rw [if_neg hc] at hw ⊢
        exact ih hw hE0
def lw_164n_15a : Nat → Nat → Int32 → Int32 → (Nat → Nat × Nat) → (Nat → Nat → Option Nat) → am_I → (Int32 → Int32 → am_I → Prop) → Prop
  | 0, _, _, _, _, _, _, _ => False
  | n + 1, v3, v4, v5, T, r, I, E0 =>
    if (I 1 10) ≤ v5 then
      E0 v4 v5 I
    else
      w_165n v5 I (fun q10 I11 =>
        w_165s v3 v5 T r I11 (fun q12 I13 =>
          if q12 ≤ q10 then
            lw_164n_15a n v3 v4 (v5 + 1) T r I13 E0
          else
            lw_164n_15a n v3 (v4 ||| (1 <<< (v5 &&& 31))) (v5 + 1) T r I13 E0))
set_option maxRecDepth 100000 in
theorem sl_164n_15a {S : am_S} {d : Nat} {Q : am_Q} {N : Nat} {T : Nat → Nat × Nat} {L : am_J} {r : Nat → Nat → Option Nat} {E0 : Int32 → Int32 → am_I → Prop} : ∀ (n : Nat) {v3 : Nat} {v4 : Int32} {v5 : Int32} {I : am_I}, lw_164n_15a n v3 v4 v5 T r I E0 → (∀ (o4 : Int32) (o5 : Int32) (I1 : am_I), E0 o4 o5 I1 → am_E S 164 (d + 5) 0 0 58 [.ref 23, .ref 1, .null, .ref v3, .int o4, .int o5] [] (N, am_ts T, I1, L, am_rs r) Q) → am_E S 164 (d + 5) 0 0 15 [.ref 23, .ref 1, .null, .ref v3, .int v4, .int v5] [] (N, am_ts T, I, L, am_rs r) Q
  | 0, _, _, _, _, hw, _ => hw.elim
  | n + 1, v3, v4, v5, I, hw, hE0 => by
    have ih := @sl_164n_15a S d Q N T L r E0 n
    unfold lw_164n_15a at hw
    try dsimp only at hw
    refine am_E.run [29, 58] 2000 (show (if (I 1 10) ≤ v5 then (am_E S 164 (d + 5) 0 0 58 [.ref 23, .ref 1, .null, .ref v3, .int v4, .int v5] [] (N, am_ts T, I, L, am_rs r) Q) else (am_E S 164 (d + 5) 0 0 29 [.ref 23, .ref 1, .null, .ref v3, .int v4, .int v5] [.int v5, .null, .ref 1, .ref 23] (N, am_ts T, I, L, am_rs r) Q)) from ?_)
    by_cases hc : (I 1 10) ≤ v5
    · rw [if_pos hc] at hw ⊢
      exact hE0 _ _ _ hw
    · rw [if_neg hc] at hw ⊢
      refine am_E.go ⟨am_ki_I N T L r _, s_165n hw (fun q10 I11 hk => ⟨q10, I11, rfl, rfl, hk⟩), ?_⟩
      intro v h9 hv
      obtain ⟨q10, I11, rfl, rfl, hw⟩ := hv
      try dsimp only at hw
      refine am_E.run [37] 2000 (show (am_E S 164 (d + 5) 0 0 37 [.ref 23, .ref 1, .null, .ref v3, .int v4, .int v5] [.int v5, .ref v3, .ref 1, .ref 23, .int q10] (N, am_ts T, I11, L, am_rs r) Q) from ?_)
      refine am_E.go ⟨am_ki_I N T L r _, s_165s hw (fun q12 I13 hk => ⟨q12, I13, rfl, rfl, hk⟩), ?_⟩
      intro v h9 hv
      obtain ⟨q12, I13, rfl, rfl, hw⟩ := hv
      try dsimp only at hw
      refine am_E.run [15] 2000 (show (if q12 ≤ q10 then (am_E S 164 (d + 5) 0 0 15 [.ref 23, .ref 1, .null, .ref v3, .int v4, .int (v5 + 1)] [] (N, am_ts T, I13, L, am_rs r) Q) else (am_E S 164 (d + 5) 0 0 15 [.ref 23, .ref 1, .null, .ref v3, .int (v4 ||| (1 <<< (v5 &&& 31))), .int (v5 + 1)] [] (N, am_ts T, I13, L, am_rs r) Q)) from ?_)
      by_cases hc : q12 ≤ q10
      · rw [if_pos hc] at hw ⊢
        exact ih hw hE0
      · rw [if_neg hc] at hw ⊢
        exact ih hw hE0
/-- KeyKeepers$Judge.votersFor(LKeyKeepers$Prison;LKeyKeepers$Text;)I -/
def w_164n (T : Nat → Nat × Nat) (r : Nat → Nat → Option Nat) (I : am_I) (K : Int32 → am_I → Prop) : Prop :=
  w_108 (I 1 16) T r I (fun q1 =>
    (q1 = none →
      ∃ n15, lw_164n_15 n15 0 0 T r I (fun o7 o8 I9 =>
        K o7 I9)) ∧ ∀ t2, q1 = some t2 →
      ∃ n15, lw_164n_15a n15 t2 0 0 T r I (fun o14 o15 I16 =>
        K o14 I16))
set_option maxRecDepth 100000 in
theorem s_164n {S : am_S} {d : Nat} {N : Nat} {T : Nat → Nat × Nat} {I : am_I} {L : am_J} {r : Nat → Nat → Option Nat} {Q : am_Q} {K : Int32 → am_I → Prop} (hw : w_164n T r I K) (hK : ∀ (q : Int32) (I1 : am_I), K q I1 → Q (some (.int q)) (N, am_ts T, I1, L, am_rs r)) : am_E S 164 (d + 5) 0 0 0 [.ref 23, .ref 1, .null, am_jk, am_jk, am_jk] [] (N, am_ts T, I, L, am_rs r) Q := by
  unfold w_164n at hw
  try dsimp only at hw
  refine am_E.run [5] 2000 (show (am_E S 164 (d + 5) 0 0 5 [.ref 23, .ref 1, .null, am_jk, am_jk, am_jk] [.int (I 1 16), .ref 1] (N, am_ts T, I, L, am_rs r) Q) from ?_)
  refine am_E.go ⟨am_kr_ N T I L r _, s_108 hw (fun q1 hk => ⟨q1, rfl, rfl, hk⟩), ?_⟩
  intro v h9 hv
  obtain ⟨q1, rfl, rfl, hw⟩ := hv
  try dsimp only at hw
  show (am_E S 164 (d + 5) 0 0 8 [.ref 23, .ref 1, .null, am_jk, am_jk, am_jk] [am_rv q1] (N, am_ts T, I, L, am_rs r) Q)
  cases hx : q1 with
  | none =>
    replace hw := hw.1 hx
    refine am_E.run [15] 2000 (show (am_E S 164 (d + 5) 0 0 15 [.ref 23, .ref 1, .null, .null, .int 0, .int 0] [] (N, am_ts T, I, L, am_rs r) Q) from ?_)
    obtain ⟨n15, hw⟩ := hw
    refine sl_164n_15 n15 hw (fun o7 o8 I9 hw => ?_)
    · try dsimp only at hw
      refine am_E.run [] 2000 (show (True ∧ Q (some (.int o7)) (N, am_ts T, I9, L, am_rs r)) from ?_)
      exact ⟨trivial, hK _ _ hw⟩
  | some t2 =>
    replace hw := hw.2 t2 hx
    refine am_E.run [15] 2000 (show (am_E S 164 (d + 5) 0 0 15 [.ref 23, .ref 1, .null, .ref t2, .int 0, .int 0] [] (N, am_ts T, I, L, am_rs r) Q) from ?_)
    obtain ⟨n15, hw⟩ := hw
    refine sl_164n_15a n15 hw (fun o14 o15 I16 hw => ?_)
    · try dsimp only at hw
      refine am_E.run [] 2000 (show (True ∧ Q (some (.int o14)) (N, am_ts T, I16, L, am_rs r)) from ?_)
      exact ⟨trivial, hK _ _ hw⟩
def lw_164s_15 : Nat → Nat → Int32 → Int32 → (Nat → Nat × Nat) → (Nat → Nat → Option Nat) → am_I → (Int32 → Int32 → am_I → Prop) → Prop
  | 0, _, _, _, _, _, _, _ => False
  | n + 1, v2, v4, v5, T, r, I, E0 =>
    if (I 1 10) ≤ v5 then
      E0 v4 v5 I
    else
      w_165s v2 v5 T r I (fun q3 I4 =>
        w_165n v5 I4 (fun q5 I6 =>
          if q5 ≤ q3 then
            lw_164s_15 n v2 v4 (v5 + 1) T r I6 E0
          else
            lw_164s_15 n v2 (v4 ||| (1 <<< (v5 &&& 31))) (v5 + 1) T r I6 E0))
set_option maxRecDepth 100000 in
theorem sl_164s_15 {S : am_S} {d : Nat} {Q : am_Q} {N : Nat} {T : Nat → Nat × Nat} {L : am_J} {r : Nat → Nat → Option Nat} {E0 : Int32 → Int32 → am_I → Prop} : ∀ (n : Nat) {v2 : Nat} {v4 : Int32} {v5 : Int32} {I : am_I}, lw_164s_15 n v2 v4 v5 T r I E0 → (∀ (o4 : Int32) (o5 : Int32) (I1 : am_I), E0 o4 o5 I1 → am_E S 164 (d + 5) 0 0 58 [.ref 23, .ref 1, .ref v2, .null, .int o4, .int o5] [] (N, am_ts T, I1, L, am_rs r) Q) → am_E S 164 (d + 5) 0 0 15 [.ref 23, .ref 1, .ref v2, .null, .int v4, .int v5] [] (N, am_ts T, I, L, am_rs r) Q
  | 0, _, _, _, _, hw, _ => hw.elim
  | n + 1, v2, v4, v5, I, hw, hE0 => by
    have ih := @sl_164s_15 S d Q N T L r E0 n
    unfold lw_164s_15 at hw
    try dsimp only at hw
    refine am_E.run [29, 58] 2000 (show (if (I 1 10) ≤ v5 then (am_E S 164 (d + 5) 0 0 58 [.ref 23, .ref 1, .ref v2, .null, .int v4, .int v5] [] (N, am_ts T, I, L, am_rs r) Q) else (am_E S 164 (d + 5) 0 0 29 [.ref 23, .ref 1, .ref v2, .null, .int v4, .int v5] [.int v5, .ref v2, .ref 1, .ref 23] (N, am_ts T, I, L, am_rs r) Q)) from ?_)
    by_cases hc : (I 1 10) ≤ v5
    · rw [if_pos hc] at hw ⊢
      exact hE0 _ _ _ hw
    · rw [if_neg hc] at hw ⊢
      refine am_E.go ⟨am_ki_I N T L r _, s_165s hw (fun q3 I4 hk => ⟨q3, I4, rfl, rfl, hk⟩), ?_⟩
      intro v h9 hv
      obtain ⟨q3, I4, rfl, rfl, hw⟩ := hv
      try dsimp only at hw
      refine am_E.run [37] 2000 (show (am_E S 164 (d + 5) 0 0 37 [.ref 23, .ref 1, .ref v2, .null, .int v4, .int v5] [.int v5, .null, .ref 1, .ref 23, .int q3] (N, am_ts T, I4, L, am_rs r) Q) from ?_)
      refine am_E.go ⟨am_ki_I N T L r _, s_165n hw (fun q5 I6 hk => ⟨q5, I6, rfl, rfl, hk⟩), ?_⟩
      intro v h9 hv
      obtain ⟨q5, I6, rfl, rfl, hw⟩ := hv
      try dsimp only at hw
      refine am_E.run [15] 2000 (show (if q5 ≤ q3 then (am_E S 164 (d + 5) 0 0 15 [.ref 23, .ref 1, .ref v2, .null, .int v4, .int (v5 + 1)] [] (N, am_ts T, I6, L, am_rs r) Q) else (am_E S 164 (d + 5) 0 0 15 [.ref 23, .ref 1, .ref v2, .null, .int (v4 ||| (1 <<< (v5 &&& 31))), .int (v5 + 1)] [] (N, am_ts T, I6, L, am_rs r) Q)) from ?_)
      by_cases hc : q5 ≤ q3
      · rw [if_pos hc] at hw ⊢
        exact ih hw hE0
      · rw [if_neg hc] at hw ⊢
        exact ih hw hE0
def lw_164s_15a : Nat → Nat → Nat → Int32 → Int32 → (Nat → Nat × Nat) → (Nat → Nat → Option Nat) → am_I → (Int32 → Int32 → am_I → Prop) → Prop
  | 0, _, _, _, _, _, _, _, _ => False
  | n + 1, v2, v3, v4, v5, T, r, I, E0 =>
    if (I 1 10) ≤ v5 then
      E0 v4 v5 I
    else
      w_165s v2 v5 T r I (fun q10 I11 =>
        w_165s v3 v5 T r I11 (fun q12 I13 =>
          if q12 ≤ q10 then
            lw_164s_15a n v2 v3 v4 (v5 + 1) T r I13 E0
          else
            lw_164s_15a n v2 v3 (v4 ||| (1 <<< (v5 &&& 31))) (v5 + 1) T r I13 E0))
set_option maxRecDepth 100000 in
theorem sl_164s_15a {S : am_S} {d : Nat} {Q : am_Q} {N : Nat} {T : Nat → Nat × Nat} {L : am_J} {r : Nat → Nat → Option Nat} {E0 : Int32 → Int32 → am_I → Prop} : ∀ (n : Nat) {v2 : Nat} {v3 : Nat} {v4 : Int32} {v5 : Int32} {I : am_I}, lw_164s_15a n v2 v3 v4 v5 T r I E0 → (∀ (o4 : Int32) (o5 : Int32) (I1 : am_I), E0 o4 o5 I1 → am_E S 164 (d + 5) 0 0 58 [.ref 23, .ref 1, .ref v2, .ref v3, .int o4, .int o5] [] (N, am_ts T, I1, L, am_rs r) Q) → am_E S 164 (d + 5) 0 0 15 [.ref 23, .ref 1, .ref v2, .ref v3, .int v4, .int v5] [] (N, am_ts T, I, L, am_rs r) Q
  | 0, _, _, _, _, _, hw, _ => hw.elim
  | n + 1, v2, v3, v4, v5, I, hw, hE0 => by
    have ih := @sl_164s_15a S d Q N T L r E0 n
    unfold lw_164s_15a at hw
    try dsimp only at hw
    refine am_E.run [29, 58] 2000 (show (if (I 1 10) ≤ v5 then (am_E S 164 (d + 5) 0 0 58 [.ref 23, .ref 1, .ref v2, .ref v3, .int v4, .int v5] [] (N, am_ts T, I, L, am_rs r) Q) else (am_E S 164 (d + 5) 0 0 29 [.ref 23, .ref 1, .ref v2, .ref v3, .int v4, .int v5] [.int v5, .ref v2, .ref 1, .ref 23] (N, am_ts T, I, L, am_rs r) Q)) from ?_)
    by_cases hc : (I 1 10) ≤ v5
    · rw [if_pos hc] at hw ⊢
      exact hE0 _ _ _ hw
    · rw [if_neg hc] at hw ⊢
      refine am_E.go ⟨am_ki_I N T L r _, s_165s hw (fun q10 I11 hk => ⟨q10, I11, rfl, rfl, hk⟩), ?_⟩
      intro v h9 hv
      obtain ⟨q10, I11, rfl, rfl, hw⟩ := hv
      try dsimp only at hw
      refine am_E.run [37] 2000 (show (am_E S 164 (d + 5) 0 0 37 [.ref 23, .ref 1, .ref v2, .ref v3, .int v4, .int v5] [.int v5, .ref v3, .ref 1, .ref 23, .int q10] (N, am_ts T, I11, L, am_rs r) Q) from ?_)
      refine am_E.go ⟨am_ki_I N T L r _, s_165s hw (fun q12 I13 hk => ⟨q12, I13, rfl, rfl, hk⟩), ?_⟩
      intro v h9 hv
      obtain ⟨q12, I13, rfl, rfl, hw⟩ := hv
      try dsimp only at hw
      refine am_E.run [15] 2000 (show (if q12 ≤ q10 then (am_E S 164 (d + 5) 0 0 15 [.ref 23, .ref 1, .ref v2, .ref v3, .int v4, .int (v5 + 1)] [] (N, am_ts T, I13, L, am_rs r) Q) else (am_E S 164 (d + 5) 0 0 15 [.ref 23, .ref 1, .ref v2, .ref v3, .int (v4 ||| (1 <<< (v5 &&& 31))), .int (v5 + 1)] [] (N, am_ts T, I13, L, am_rs r) Q)) from ?_)
      by_cases hc : q12 ≤ q10
      · rw [if_pos hc] at hw ⊢
        exact ih hw hE0
      · rw [if_neg hc] at hw ⊢
        exact ih hw hE0
/-- KeyKeepers$Judge.votersFor(LKeyKeepers$Prison;LKeyKeepers$Text;)I -/
def w_164s (x1 : Nat) (T : Nat → Nat × Nat) (r : Nat → Nat → Option Nat) (I : am_I) (K : Int32 → am_I → Prop) : Prop :=
  w_108 (I 1 16) T r I (fun q1 =>
    (q1 = none →
      ∃ n15, lw_164s_15 n15 x1 0 0 T r I (fun o7 o8 I9 =>
        K o7 I9)) ∧ ∀ t2, q1 = some t2 →
      ∃ n15, lw_164s_15a n15 x1 t2 0 0 T r I (fun o14 o15 I16 =>
        K o14 I16))
set_option maxRecDepth 100000 in
theorem s_164s {S : am_S} {d : Nat} {N : Nat} {T : Nat → Nat × Nat} {I : am_I} {L : am_J} {r : Nat → Nat → Option Nat} {Q : am_Q} {x1 : Nat} {K : Int32 → am_I → Prop} (hw : w_164s x1 T r I K) (hK : ∀ (q : Int32) (I1 : am_I), K q I1 → Q (some (.int q)) (N, am_ts T, I1, L, am_rs r)) : am_E S 164 (d + 5) 0 0 0 [.ref 23, .ref 1, .ref x1, am_jk, am_jk, am_jk] [] (N, am_ts T, I, L, am_rs r) Q := by
  unfold w_164s at hw
  try dsimp only at hw
  refine am_E.run [5] 2000 (show (am_E S 164 (d + 5) 0 0 5 [.ref 23, .ref 1, .ref x1, am_jk, am_jk, am_jk] [.int (I 1 16), .ref 1] (N, am_ts T, I, L, am_rs r) Q) from ?_)
  refine am_E.go ⟨am_kr_ N T I L r _, s_108 hw (fun q1 hk => ⟨q1, rfl, rfl, hk⟩), ?_⟩
  intro v h9 hv
  obtain ⟨q1, rfl, rfl, hw⟩ := hv
  try dsimp only at hw
  show (am_E S 164 (d + 5) 0 0 8 [.ref 23, .ref 1, .ref x1, am_jk, am_jk, am_jk] [am_rv q1] (N, am_ts T, I, L, am_rs r) Q)
  cases hx : q1 with
  | none =>
    replace hw := hw.1 hx
    refine am_E.run [15] 2000 (show (am_E S 164 (d + 5) 0 0 15 [.ref 23, .ref 1, .ref x1, .null, .int 0, .int 0] [] (N, am_ts T, I, L, am_rs r) Q) from ?_)
    obtain ⟨n15, hw⟩ := hw
    refine sl_164s_15 n15 hw (fun o7 o8 I9 hw => ?_)
    · try dsimp only at hw
      refine am_E.run [] 2000 (show (True ∧ Q (some (.int o7)) (N, am_ts T, I9, L, am_rs r)) from ?_)
      exact ⟨trivial, hK _ _ hw⟩
  | some t2 =>
    replace hw := hw.2 t2 hx
    refine am_E.run [15] 2000 (show (am_E S 164 (d + 5) 0 0 15 [.ref 23, .ref 1, .ref x1, .ref t2, .int 0, .int 0] [] (N, am_ts T, I, L, am_rs r) Q) from ?_)
    obtain ⟨n15, hw⟩ := hw
    refine sl_164s_15a n15 hw (fun o14 o15 I16 hw => ?_)
    · try dsimp only at hw
      refine am_E.run [] 2000 (show (True ∧ Q (some (.int o14)) (N, am_ts T, I16, L, am_rs r)) from ?_)
      exact ⟨trivial, hK _ _ hw⟩
/-- KeyKeepers.nights(II)I -/
def w_168 (x0 : Int32) (x1 : Int32) (T : Nat → Nat × Nat) (r : Nat → Nat → Option Nat) (I : am_I) (K : Int32 → am_I → Prop) : Prop :=
  if (f_13 x0 0 1000000) = 0 then
    w_14 (-1) I (fun q1 I2 =>
      K q1 I2)
  else
    if (f_13 x1 1 100) = 0 then
      w_14 (-1) I (fun q11 I12 =>
        K q11 I12)
    else
      if (I 1 10) = 0 then
        w_14 (-3) I (fun q3 I4 =>
          K q3 I4)
      else
        if (I 1 2) = 0 then
          w_14 (-3) I (fun q9 I10 =>
            K q9 I10)
        else
          w_169 x0 x1 T r I (fun q5 I6 =>
            w_16 q5 I6 (fun q7 I8 =>
              K q7 I8))
set_option maxRecDepth 100000 in
theorem s_168 {S : am_S} {d : Nat} {N : Nat} {T : Nat → Nat × Nat} {I : am_I} {L : am_J} {r : Nat → Nat → Option Nat} {Q : am_Q} {x0 : Int32} {x1 : Int32} {K : Int32 → am_I → Prop} (hw : w_168 x0 x1 T r I K) (hK : ∀ (q : Int32) (I1 : am_I), K q I1 → Q (some (.int q)) (N, am_ts T, I1, L, am_rs r)) : am_E S 168 (d + 5) 0 0 0 [.ref 0, .int x0, .int x1] [] (N, am_ts T, I, L, am_rs r) Q := by
  unfold w_168 at hw
  try dsimp only at hw
  refine am_E.run [5] 2000 (show (am_E S 168 (d + 5) 0 0 5 [.ref 0, .int x0, .int x1] [.int 1000000, .int 0, .int x0] (N, am_ts T, I, L, am_rs r) Q) from ?_)
  refine am_E.go ⟨fun v h9 => v = some (.int (f_13 x0 0 1000000)) ∧ h9 = (N, am_ts T, I, L, am_rs r), s_13 ⟨rfl, rfl⟩, ?_⟩
  intro v h9 hv
  obtain ⟨rfl, rfl⟩ := hv
  refine am_E.run [15, 23] 2000 (show (if (f_13 x0 0 1000000) = 0 then (am_E S 168 (d + 5) 0 0 23 [.ref 0, .int x0, .int x1] [.int (-1), .ref 0] (N, am_ts T, I, L, am_rs r) Q) else (am_E S 168 (d + 5) 0 0 15 [.ref 0, .int x0, .int x1] [.int 100, .int 1, .int x1] (N, am_ts T, I, L, am_rs r) Q)) from ?_)
  by_cases hc : (f_13 x0 0 1000000) = 0
  · rw [if_pos hc] at hw ⊢
    refine am_E.go ⟨am_ki_I N T L r _, s_14 hw (fun q1 I2 hk => ⟨q1, I2, rfl, rfl, hk⟩), ?_⟩
    intro v h9 hv
    obtain ⟨q1, I2, rfl, rfl, hw⟩ := hv
    try dsimp only at hw
    refine am_E.run [] 2000 (show (True ∧ Q (some (.int q1)) (N, am_ts T, I2, L, am_rs r)) from ?_)
    exact ⟨trivial, hK _ _ hw⟩
  · rw [if_neg hc] at hw ⊢
    refine am_E.go ⟨fun v h9 => v = some (.int (f_13 x1 1 100)) ∧ h9 = (N, am_ts T, I, L, am_rs r), s_13 ⟨rfl, rfl⟩, ?_⟩
    intro v h9 hv
    obtain ⟨rfl, rfl⟩ := hv
    refine am_E.run [23, 50, 65] 2000 (show (if (f_13 x1 1 100) = 0 then (am_E S 168 (d + 5) 0 0 23 [.ref 0, .int x0, .int x1] [.int (-1), .ref 0] (N, am_ts T, I, L, am_rs r) Q) else (if (I 1 10) = 0 then (am_E S 168 (d + 5) 0 0 50 [.ref 0, .int x0, .int x1] [.int (-3), .ref 0] (N, am_ts T, I, L, am_rs r) Q) else (if (I 1 2) = 0 then (am_E S 168 (d + 5) 0 0 50 [.ref 0, .int x0, .int x1] [.int (-3), .ref 0] (N, am_ts T, I, L, am_rs r) Q) else (am_E S 168 (d + 5) 0 0 65 [.ref 0, .int x0, .int x1] [.int x1, .int x0, .ref 1, .ref 63, .ref 0] (N, am_ts T, I, L, am_rs r) Q)))) from ?_)
    by_cases hc : (f_13 x1 1 100) = 0
    · rw [if_pos hc] at hw ⊢
      refine am_E.go ⟨am_ki_I N T L r _, s_14 hw (fun q11 I12 hk => ⟨q11, I12, rfl, rfl, hk⟩), ?_⟩
      intro v h9 hv
      obtain ⟨q11, I12, rfl, rfl, hw⟩ := hv
      try dsimp only at hw
      refine am_E.run [] 2000 (show (True ∧ Q (some (.int q11)) (N, am_ts T, I12, L, am_rs r)) from ?_)
      exact ⟨trivial, hK _ _ hw⟩
    · rw [if_neg hc] at hw ⊢
      by_cases hc : (I 1 10) = 0
      · rw [if_pos hc] at hw ⊢
        refine am_E.go ⟨am_ki_I N T L r _, s_14 hw (fun q3 I4 hk => ⟨q3, I4, rfl, rfl, hk⟩), ?_⟩
        intro v h9 hv
        obtain ⟨q3, I4, rfl, rfl, hw⟩ := hv
        try dsimp only at hw
        refine am_E.run [] 2000 (show (True ∧ Q (some (.int q3)) (N, am_ts T, I4, L, am_rs r)) from ?_)
        exact ⟨trivial, hK _ _ hw⟩
      · rw [if_neg hc] at hw ⊢
        by_cases hc : (I 1 2) = 0
        · rw [if_pos hc] at hw ⊢
          refine am_E.go ⟨am_ki_I N T L r _, s_14 hw (fun q9 I10 hk => ⟨q9, I10, rfl, rfl, hk⟩), ?_⟩
          intro v h9 hv
          obtain ⟨q9, I10, rfl, rfl, hw⟩ := hv
          try dsimp only at hw
          refine am_E.run [] 2000 (show (True ∧ Q (some (.int q9)) (N, am_ts T, I10, L, am_rs r)) from ?_)
          exact ⟨trivial, hK _ _ hw⟩
        · rw [if_neg hc] at hw ⊢
          refine am_E.go ⟨am_ki_I N T L r _, s_169 hw (fun q5 I6 hk => ⟨q5, I6, rfl, rfl, hk⟩), ?_⟩
          intro v h9 hv
          obtain ⟨q5, I6, rfl, rfl, hw⟩ := hv
          try dsimp only at hw
          show (am_E S 168 (d + 5) 0 0 68 [.ref 0, .int x0, .int x1] [.int q5, .ref 0] (N, am_ts T, I6, L, am_rs r) Q)
          refine am_E.go ⟨am_ki_I N T L r _, s_16 hw (fun q7 I8 hk => ⟨q7, I8, rfl, rfl, hk⟩), ?_⟩
          intro v h9 hv
          obtain ⟨q7, I8, rfl, rfl, hw⟩ := hv
          try dsimp only at hw
          refine am_E.run [] 2000 (show (True ∧ Q (some (.int q7)) (N, am_ts T, I8, L, am_rs r)) from ?_)
          exact ⟨trivial, hK _ _ hw⟩
/-- KeyKeepersModel.beginText(Z)V -/
def w_205 (x0 : Int32) (I : am_I) (L : am_J) (K : am_I → am_J → Prop) : Prop :=
  (x0 = 0 ∨ x0 = 1) ∧
  w_206 (am_u I 66 20 x0) L (fun I1 L2 =>
    K (am_u (am_u (am_u I1 66 21 0) 66 23 0) 66 26 0) L2)
set_option maxRecDepth 100000 in
theorem s_205 {S : am_S} {d : Nat} {N : Nat} {T : Nat → Nat × Nat} {I : am_I} {L : am_J} {r : Nat → Nat → Option Nat} {Q : am_Q} {x0 : Int32} {K : am_I → am_J → Prop} (hw : w_205 x0 I L K) (hK : ∀ (I1 : am_I) (L1 : am_J), K I1 L1 → Q (none) (N, am_ts T, I1, L1, am_rs r)) : am_E S 205 (d + 3) 0 0 0 [.ref 66, .int x0] [] (N, am_ts T, I, L, am_rs r) Q := by
  unfold w_205 at hw
  try dsimp only at hw
  refine am_E.run [6] 2000 (show (if (3 = 0 ∨ (3 = 3 ∧ (x0 = 0 ∨ x0 = 1))) then (am_E S 205 (d + 3) 0 0 6 [.ref 66, .int x0] [.ref 66] (N, am_ts T, (am_u I 66 20 x0), L, am_rs r) Q) else False) from ?_)
  refine am_ifp (Or.inr ⟨rfl, hw.1⟩) ?_
  replace hw := hw.2
  refine am_E.go ⟨am_kv_IL N T r _, s_206 hw (fun I1 L2 hk => ⟨I1, L2, rfl, rfl, hk⟩), ?_⟩
  intro v h9 hv
  obtain ⟨I1, L2, rfl, rfl, hw⟩ := hv
  try dsimp only at hw
  refine am_E.run [] 2000 (show (True ∧ Q (none) (N, am_ts T, (am_u (am_u (am_u I1 66 21 0) 66 23 0) 66 26 0), L2, am_rs r)) from ?_)
  exact ⟨trivial, hK _ _ hw⟩
/-- KeyKeepersModel.readPlain()I -/
def w_214 (I : am_I) (L : am_J) (K : Int32 → am_I → am_J → Prop) : Prop :=
  if (f_211 14836 I L) = 0 then
    if (f_216 40 I L) = 0 then
      w_218 I L (fun q1 I2 L3 =>
        K q1 I2 L3)
    else
      w_217 31 I L (fun I4 L5 =>
        K 0 I4 L5)
  else
    w_215 28 0 I (fun I6 =>
      w_207 I6 L (fun I7 L8 =>
        K 0 I7 L8))
set_option maxRecDepth 100000 in
theorem s_214 {S : am_S} {d : Nat} {N : Nat} {T : Nat → Nat × Nat} {I : am_I} {L : am_J} {r : Nat → Nat → Option Nat} {Q : am_Q} {K : Int32 → am_I → am_J → Prop} (hw : w_214 I L K) (hK : ∀ (q : Int32) (I1 : am_I) (L1 : am_J), K q I1 L1 → Q (some (.int q)) (N, am_ts T, I1, L1, am_rs r)) : am_E S 214 (d + 5) 0 0 0 [.ref 66] [] (N, am_ts T, I, L, am_rs r) Q := by
  unfold w_214 at hw
  try dsimp only at hw
  refine am_E.run [4] 2000 (show (am_E S 214 (d + 5) 0 0 4 [.ref 66] [.long 14836, .ref 66] (N, am_ts T, I, L, am_rs r) Q) from ?_)
  refine am_E.go ⟨fun v h9 => v = some (.int (f_211 14836 I L)) ∧ h9 = (N, am_ts T, I, L, am_rs r), s_211 ⟨rfl, rfl⟩, ?_⟩
  intro v h9 hv
  obtain ⟨rfl, rfl⟩ := hv
  refine am_E.run [14, 26] 2000 (show (if (f_211 14836 I L) = 0 then (am_E S 214 (d + 5) 0 0 26 [.ref 66] [.int 40, .ref 66] (N, am_ts T, I, L, am_rs r) Q) else (am_E S 214 (d + 5) 0 0 14 [.ref 66] [.int 0, .int 28, .ref 66] (N, am_ts T, I, L, am_rs r) Q)) from ?_)
  by_cases hc : (f_211 14836 I L) = 0
  · rw [if_pos hc] at hw ⊢
    refine am_E.go ⟨fun v h9 => v = some (.int (f_216 40 I L)) ∧ h9 = (N, am_ts T, I, L, am_rs r), s_216 ⟨rfl, rfl⟩, ?_⟩
    intro v h9 hv
    obtain ⟨rfl, rfl⟩ := hv
    refine am_E.run [35, 41] 2000 (show (if (f_216 40 I L) = 0 then (am_E S 214 (d + 5) 0 0 41 [.ref 66] [.ref 66] (N, am_ts T, I, L, am_rs r) Q) else (am_E S 214 (d + 5) 0 0 35 [.ref 66] [.int 31, .ref 66] (N, am_ts T, I, L, am_rs r) Q)) from ?_)
    by_cases hc : (f_216 40 I L) = 0
    · rw [if_pos hc] at hw ⊢
      refine am_E.go ⟨am_ki_IL N T r _, s_218 hw (fun q1 I2 L3 hk => ⟨q1, I2, L3, rfl, rfl, hk⟩), ?_⟩
      intro v h9 hv
      obtain ⟨q1, I2, L3, rfl, rfl, hw⟩ := hv
      try dsimp only at hw
      refine am_E.run [] 2000 (show (True ∧ Q (some (.int q1)) (N, am_ts T, I2, L3, am_rs r)) from ?_)
      exact ⟨trivial, hK _ _ _ hw⟩
    · rw [if_neg hc] at hw ⊢
      refine am_E.go ⟨am_kv_IL N T r _, s_217 hw (fun I4 L5 hk => ⟨I4, L5, rfl, rfl, hk⟩), ?_⟩
      intro v h9 hv
      obtain ⟨I4, L5, rfl, rfl, hw⟩ := hv
      try dsimp only at hw
      refine am_E.run [] 2000 (show (True ∧ Q (some (.int 0)) (N, am_ts T, I4, L5, am_rs r)) from ?_)
      exact ⟨trivial, hK _ _ _ hw⟩
  · rw [if_neg hc] at hw ⊢
    refine am_E.go ⟨am_kv_I N T L r _, s_215 hw (fun I6 hk => ⟨I6, rfl, rfl, hk⟩), ?_⟩
    intro v h9 hv
    obtain ⟨I6, rfl, rfl, hw⟩ := hv
    try dsimp only at hw
    refine am_E.run [18] 2000 (show (am_E S 214 (d + 5) 0 0 18 [.ref 66] [.ref 66] (N, am_ts T, I6, L, am_rs r) Q) from ?_)
    refine am_E.go ⟨am_kv_IL N T r _, s_207 hw (fun I7 L8 hk => ⟨I7, L8, rfl, rfl, hk⟩), ?_⟩
    intro v h9 hv
    obtain ⟨I7, L8, rfl, rfl, hw⟩ := hv
    try dsimp only at hw
    refine am_E.run [] 2000 (show (True ∧ Q (some (.int 0)) (N, am_ts T, I7, L8, am_rs r)) from ?_)
    exact ⟨trivial, hK _ _ _ hw⟩
def lw_235_154 : Nat → Int32 → Int64 → Int32 → am_I → am_J → (Int64 → Int32 → am_I → am_J → Prop) → Prop
  | 0, _, _, _, _, _, _ => False
  | n + 1, v2, v9, v11, I, L, E0 =>
    ¬ (((I 66 34) + 1) < 0 ∨ 5510 ≤ Int32.toNatClampNeg ((I 66 34) + 1)) ∧
    if (I 68 (Int32.toNatClampNeg ((I 66 34) + 1))) ≤ v11 then
      E0 v9 v11 I L
    else
      ¬ ((((I 66 34) + 2) + (8 * v11)) < 0 ∨ 5510 ≤ Int32.toNatClampNeg (((I 66 34) + 2) + (8 * v11))) ∧
      if (I 68 (Int32.toNatClampNeg (((I 66 34) + 2) + (8 * v11)))) = v2 then
        w_238 (((I 66 34) + 2) + (8 * v11)) I L (fun q5 I6 L7 =>
          if q5 = 0 then
            lw_235_154 n v2 v9 (v11 + 1) I6 L7 E0
          else
            if v2 = 3 then
              lw_235_154 n v2 1 (v11 + 1) I6 L7 E0
            else
              lw_235_154 n v2 (L7 66 40) (v11 + 1) I6 L7 E0)
      else
        lw_235_154 n v2 v9 (v11 + 1) I L E0
set_option maxRecDepth 100000 in
theorem sl_235_154 {S : am_S} {d : Nat} {Q : am_Q} {N : Nat} {T : Nat → Nat × Nat} {r : Nat → Nat → Option Nat} {E0 : Int64 → Int32 → am_I → am_J → Prop} : ∀ (n : Nat) {v2 : Int32} {v9 : Int64} {v11 : Int32} {I : am_I} {L : am_J}, lw_235_154 n v2 v9 v11 I L E0 → (∀ (o9 : Int64) (o11 : Int32) (I1 : am_I) (L1 : am_J), E0 o9 o11 I1 L1 → am_E S 235 (d + 4) 0 0 225 [.ref 66, am_jk, .int v2, am_jk, am_jk, am_jk, am_jk, am_jk, am_jk, .long o9, am_jk, .int o11, am_jk] [] (N, am_ts T, I1, L1, am_rs r) Q) → am_E S 235 (d + 4) 0 0 154 [.ref 66, am_jk, .int v2, am_jk, am_jk, am_jk, am_jk, am_jk, am_jk, .long v9, am_jk, .int v11, am_jk] [] (N, am_ts T, I, L, am_rs r) Q
  | 0, _, _, _, _, _, hw, _ => hw.elim
  | n + 1, v2, v9, v11, I, L, hw, hE0 => by
    have ih := @sl_235_154 S d Q N T r E0 n
    unfold lw_235_154 at hw
    try dsimp only at hw
    refine am_E.run [154, 198, 225] 2000 (show (if ((I 66 34) + 1) < 0 ∨ 5510 ≤ Int32.toNatClampNeg ((I 66 34) + 1) then False else (if (I 68 (Int32.toNatClampNeg ((I 66 34) + 1))) ≤ v11 then (am_E S 235 (d + 4) 0 0 225 [.ref 66, am_jk, .int v2, am_jk, am_jk, am_jk, am_jk, am_jk, am_jk, .long v9, am_jk, .int v11, am_jk] [] (N, am_ts T, I, L, am_rs r) Q) else (if (((I 66 34) + 2) + (8 * v11)) < 0 ∨ 5510 ≤ Int32.toNatClampNeg (((I 66 34) + 2) + (8 * v11)) then False else (if (I 68 (Int32.toNatClampNeg (((I 66 34) + 2) + (8 * v11)))) = v2 then (am_E S 235 (d + 4) 0 0 198 [.ref 66, am_jk, .int v2, am_jk, am_jk, am_jk, am_jk, am_jk, am_jk, .long v9, am_jk, .int v11, .int (((I 66 34) + 2) + (8 * v11))] [.int (((I 66 34) + 2) + (8 * v11)), .ref 66] (N, am_ts T, I, L, am_rs r) Q) else (am_E S 235 (d + 4) 0 0 154 [.ref 66, am_jk, .int v2, am_jk, am_jk, am_jk, am_jk, am_jk, am_jk, .long v9, am_jk, .int (v11 + 1), .int (((I 66 34) + 2) + (8 * v11))] [] (N, am_ts T, I, L, am_rs r) Q))))) from ?_)
    refine am_ifn hw.1 ?_
    replace hw := hw.2
    by_cases hc : (I 68 (Int32.toNatClampNeg ((I 66 34) + 1))) ≤ v11
    · rw [if_pos hc] at hw ⊢
      exact hE0 _ _ _ _ hw
    · rw [if_neg hc] at hw ⊢
      refine am_ifn hw.1 ?_
      replace hw := hw.2
      by_cases hc : (I 68 (Int32.toNatClampNeg (((I 66 34) + 2) + (8 * v11)))) = v2
      · rw [if_pos hc] at hw ⊢
        refine am_E.go ⟨am_ki_IL N T r _, s_238 hw (fun q5 I6 L7 hk => ⟨q5, I6, L7, rfl, rfl, hk⟩), ?_⟩
        intro v h9 hv
        obtain ⟨q5, I6, L7, rfl, rfl, hw⟩ := hv
        try dsimp only at hw
        refine am_E.run [154] 2000 (show (if q5 = 0 then (am_E S 235 (d + 4) 0 0 154 [.ref 66, am_jk, .int v2, am_jk, am_jk, am_jk, am_jk, am_jk, am_jk, .long v9, am_jk, .int (v11 + 1), .int (((I 66 34) + 2) + (8 * v11))] [] (N, am_ts T, I6, L7, am_rs r) Q) else (if v2 = 3 then (am_E S 235 (d + 4) 0 0 154 [.ref 66, am_jk, .int v2, am_jk, am_jk, am_jk, am_jk, am_jk, am_jk, .long 1, am_jk, .int (v11 + 1), .int (((I 66 34) + 2) + (8 * v11))] [] (N, am_ts T, I6, L7, am_rs r) Q) else (am_E S 235 (d + 4) 0 0 154 [.ref 66, am_jk, .int v2, am_jk, am_jk, am_jk, am_jk, am_jk, am_jk, .long (L7 66 40), am_jk, .int (v11 + 1), .int (((I 66 34) + 2) + (8 * v11))] [] (N, am_ts T, I6, L7, am_rs r) Q))) from ?_)
        by_cases hc : q5 = 0
        · rw [if_pos hc] at hw ⊢
          exact am_E.junk (ih hw hE0) (am_le.cons (am_le.cons (am_le.cons (am_le.cons (am_le.cons (am_le.cons (am_le.cons (am_le.cons (am_le.cons (am_le.cons (am_le.cons (am_le.cons (am_le.jk am_le.nil)))))))))))))
        · rw [if_neg hc] at hw ⊢
          by_cases hc : v2 = 3
          · rw [if_pos hc] at hw ⊢
            exact am_E.junk (ih hw hE0) (am_le.cons (am_le.cons (am_le.cons (am_le.cons (am_le.cons (am_le.cons (am_le.cons (am_le.cons (am_le.cons (am_le.cons (am_le.cons (am_le.cons (am_le.jk am_le.nil)))))))))))))
          · rw [if_neg hc] at hw ⊢
            exact am_E.junk (ih hw hE0) (am_le.cons (am_le.cons (am_le.cons (am_le.cons (am_le.cons (am_le.cons (am_le.cons (am_le.cons (am_le.cons (am_le.cons (am_le.cons (am_le.cons (am_le.jk am_le.nil)))))))))))))
      · rw [if_neg hc] at hw ⊢
        exact am_E.junk (ih hw hE0) (am_le.cons (am_le.cons (am_le.cons (am_le.cons (am_le.cons (am_le.cons (am_le.cons (am_le.cons (am_le.cons (am_le.cons (am_le.cons (am_le.cons (am_le.jk am_le.nil)))))))))))))
/-- KeyKeepersModel.tells(IIIIIIJ)J -/
def w_235 (x0 : Int32) (x1 : Int32) (x2 : Int32) (x3 : Int32) (x4 : Int32) (x5 : Int32) (x6 : Int64) (I : am_I) (L : am_J) (K : Int64 → am_I → am_J → Prop) : Prop :=
  if x0 = (-1) then
    K x6 I L
  else
    ¬ ((26 + x2) < 0 ∨ 5510 ≤ Int32.toNatClampNeg (26 + x2)) ∧
    ¬ ((34 + x2) < 0 ∨ 5510 ≤ Int32.toNatClampNeg (34 + x2)) ∧
    ¬ ((18 + x2) < 0 ∨ 5510 ≤ Int32.toNatClampNeg (18 + x2)) ∧
    w_236 (I 68 (Int32.toNatClampNeg (18 + x2))) (fun q1 =>
      w_237 0 (am_u I 66 34 (110 + (900 * x0))) (fun q2 =>
        w_237 2 (am_u I 66 34 (110 + (900 * x0))) (fun q3 =>
          w_237 3 (am_u I 66 34 (110 + (900 * x0))) (fun q4 =>
            ∃ n154, lw_235_154 n154 x1 x6 0 (am_u I 66 34 (110 + (900 * x0))) (am_u (am_u (am_u (am_u (am_u (am_u (am_u (am_u (am_u (am_u L 84 1 (Int32.toInt64 x2)) 84 2 (Int32.toInt64 (I 68 (Int32.toNatClampNeg (26 + x2))))) 84 3 (Int32.toInt64 (I 68 (Int32.toNatClampNeg (34 + x2))))) 84 4 (Int32.toInt64 q1)) 84 5 (Int32.toInt64 x3)) 84 6 (Int32.toInt64 x4)) 84 7 (Int32.toInt64 x5)) 84 8 (Int32.toInt64 q2)) 84 9 (Int32.toInt64 q3)) 84 10 (Int32.toInt64 q4)) (fun o8 o9 I10 L11 =>
              K o8 I10 L11)))))
set_option maxRecDepth 100000 in
theorem s_235 {S : am_S} {d : Nat} {N : Nat} {T : Nat → Nat × Nat} {I : am_I} {L : am_J} {r : Nat → Nat → Option Nat} {Q : am_Q} {x0 : Int32} {x1 : Int32} {x2 : Int32} {x3 : Int32} {x4 : Int32} {x5 : Int32} {x6 : Int64} {K : Int64 → am_I → am_J → Prop} (hw : w_235 x0 x1 x2 x3 x4 x5 x6 I L K) (hK : ∀ (q : Int64) (I1 : am_I) (L1 : am_J), K q I1 L1 → Q (some (.long q)) (N, am_ts T, I1, L1, am_rs r)) : am_E S 235 (d + 4) 0 0 0 [.ref 66, .int x0, .int x1, .int x2, .int x3, .int x4, .int x5, .long x6, am_jk, am_jk, am_jk, am_jk, am_jk] [] (N, am_ts T, I, L, am_rs r) Q := by
  unfold w_235 at hw
  try dsimp only at hw
  refine am_E.run [74] 2000 (show (if x0 = (-1) then (True ∧ Q (some (.long x6)) (N, am_ts T, I, L, am_rs r)) else (if (26 + x2) < 0 ∨ 5510 ≤ Int32.toNatClampNeg (26 + x2) then False else (if (34 + x2) < 0 ∨ 5510 ≤ Int32.toNatClampNeg (34 + x2) then False else (if (18 + x2) < 0 ∨ 5510 ≤ Int32.toNatClampNeg (18 + x2) then False else (am_E S 235 (d + 4) 0 0 74 [.ref 66, .int x0, .int x1, .int x2, .int x3, .int x4, .int x5, .long x6, am_jk, am_jk, am_jk, am_jk, am_jk] [.int (I 68 (Int32.toNatClampNeg (18 + x2))), .int 4, .ref 84] (N, am_ts T, (am_u I 66 34 (110 + (900 * x0))), (am_u (am_u (am_u L 84 1 (Int32.toInt64 x2)) 84 2 (Int32.toInt64 (I 68 (Int32.toNatClampNeg (26 + x2))))) 84 3 (Int32.toInt64 (I 68 (Int32.toNatClampNeg (34 + x2))))), am_rs r) Q))))) from ?_)
  by_cases hc : x0 = (-1)
  · rw [if_pos hc] at hw ⊢
    exact ⟨trivial, hK _ _ _ hw⟩
  · rw [if_neg hc] at hw ⊢
    refine am_ifn hw.1 ?_
    replace hw := hw.2
    refine am_ifn hw.1 ?_
    replace hw := hw.2
    refine am_ifn hw.1 ?_
    replace hw := hw.2
    refine am_E.go ⟨am_ki_ N T (am_u I 66 34 (110 + (900 * x0))) (am_u (am_u (am_u L 84 1 (Int32.toInt64 x2)) 84 2 (Int32.toInt64 (I 68 (Int32.toNatClampNeg (26 + x2))))) 84 3 (Int32.toInt64 (I 68 (Int32.toNatClampNeg (34 + x2))))) r _, s_236 hw (fun q1 hk => ⟨q1, rfl, rfl, hk⟩), ?_⟩
    intro v h9 hv
    obtain ⟨q1, rfl, rfl, hw⟩ := hv
    try dsimp only at hw
    refine am_E.run [116] 2000 (show (am_E S 235 (d + 4) 0 0 116 [.ref 66, .int x0, .int x1, .int x2, .int x3, .int x4, .int x5, .long x6, am_jk, am_jk, am_jk, am_jk, am_jk] [.int 0, .ref 66, .int 8, .ref 84] (N, am_ts T, (am_u I 66 34 (110 + (900 * x0))), (am_u (am_u (am_u (am_u (am_u (am_u (am_u L 84 1 (Int32.toInt64 x2)) 84 2 (Int32.toInt64 (I 68 (Int32.toNatClampNeg (26 + x2))))) 84 3 (Int32.toInt64 (I 68 (Int32.toNatClampNeg (34 + x2))))) 84 4 (Int32.toInt64 q1)) 84 5 (Int32.toInt64 x3)) 84 6 (Int32.toInt64 x4)) 84 7 (Int32.toInt64 x5)), am_rs r) Q) from ?_)
    refine am_E.go ⟨am_ki_ N T (am_u I 66 34 (110 + (900 * x0))) (am_u (am_u (am_u (am_u (am_u (am_u (am_u L 84 1 (Int32.toInt64 x2)) 84 2 (Int32.toInt64 (I 68 (Int32.toNatClampNeg (26 + x2))))) 84 3 (Int32.toInt64 (I 68 (Int32.toNatClampNeg (34 + x2))))) 84 4 (Int32.toInt64 q1)) 84 5 (Int32.toInt64 x3)) 84 6 (Int32.toInt64 x4)) 84 7 (Int32.toInt64 x5)) r _, s_237 hw (fun q2 hk => ⟨q2, rfl, rfl, hk⟩), ?_⟩
    intro v h9 hv
    obtain ⟨q2, rfl, rfl, hw⟩ := hv
    try dsimp only at hw
    refine am_E.run [129] 2000 (show (am_E S 235 (d + 4) 0 0 129 [.ref 66, .int x0, .int x1, .int x2, .int x3, .int x4, .int x5, .long x6, am_jk, am_jk, am_jk, am_jk, am_jk] [.int 2, .ref 66, .int 9, .ref 84] (N, am_ts T, (am_u I 66 34 (110 + (900 * x0))), (am_u (am_u (am_u (am_u (am_u (am_u (am_u (am_u L 84 1 (Int32.toInt64 x2)) 84 2 (Int32.toInt64 (I 68 (Int32.toNatClampNeg (26 + x2))))) 84 3 (Int32.toInt64 (I 68 (Int32.toNatClampNeg (34 + x2))))) 84 4 (Int32.toInt64 q1)) 84 5 (Int32.toInt64 x3)) 84 6 (Int32.toInt64 x4)) 84 7 (Int32.toInt64 x5)) 84 8 (Int32.toInt64 q2)), am_rs r) Q) from ?_)
    refine am_E.go ⟨am_ki_ N T (am_u I 66 34 (110 + (900 * x0))) (am_u (am_u (am_u (am_u (am_u (am_u (am_u (am_u L 84 1 (Int32.toInt64 x2)) 84 2 (Int32.toInt64 (I 68 (Int32.toNatClampNeg (26 + x2))))) 84 3 (Int32.toInt64 (I 68 (Int32.toNatClampNeg (34 + x2))))) 84 4 (Int32.toInt64 q1)) 84 5 (Int32.toInt64 x3)) 84 6 (Int32.toInt64 x4)) 84 7 (Int32.toInt64 x5)) 84 8 (Int32.toInt64 q2)) r _, s_237 hw (fun q3 hk => ⟨q3, rfl, rfl, hk⟩), ?_⟩
    intro v h9 hv
    obtain ⟨q3, rfl, rfl, hw⟩ := hv
    try dsimp only at hw
    refine am_E.run [142] 2000 (show (am_E S 235 (d + 4) 0 0 142 [.ref 66, .int x0, .int x1, .int x2, .int x3, .int x4, .int x5, .long x6, am_jk, am_jk, am_jk, am_jk, am_jk] [.int 3, .ref 66, .int 10, .ref 84] (N, am_ts T, (am_u I 66 34 (110 + (900 * x0))), (am_u (am_u (am_u (am_u (am_u (am_u (am_u (am_u (am_u L 84 1 (Int32.toInt64 x2)) 84 2 (Int32.toInt64 (I 68 (Int32.toNatClampNeg (26 + x2))))) 84 3 (Int32.toInt64 (I 68 (Int32.toNatClampNeg (34 + x2))))) 84 4 (Int32.toInt64 q1)) 84 5 (Int32.toInt64 x3)) 84 6 (Int32.toInt64 x4)) 84 7 (Int32.toInt64 x5)) 84 8 (Int32.toInt64 q2)) 84 9 (Int32.toInt64 q3)), am_rs r) Q) from ?_)
    refine am_E.go ⟨am_ki_ N T (am_u I 66 34 (110 + (900 * x0))) (am_u (am_u (am_u (am_u (am_u (am_u (am_u (am_u (am_u L 84 1 (Int32.toInt64 x2)) 84 2 (Int32.toInt64 (I 68 (Int32.toNatClampNeg (26 + x2))))) 84 3 (Int32.toInt64 (I 68 (Int32.toNatClampNeg (34 + x2))))) 84 4 (Int32.toInt64 q1)) 84 5 (Int32.toInt64 x3)) 84 6 (Int32.toInt64 x4)) 84 7 (Int32.toInt64 x5)) 84 8 (Int32.toInt64 q2)) 84 9 (Int32.toInt64 q3)) r _, s_237 hw (fun q4 hk => ⟨q4, rfl, rfl, hk⟩), ?_⟩
    intro v h9 hv
    obtain ⟨q4, rfl, rfl, hw⟩ := hv
    try dsimp only at hw
    refine am_E.run [154] 2000 (show (am_E S 235 (d + 4) 0 0 154 [.ref 66, .int x0, .int x1, .int x2, .int x3, .int x4, .int x5, .long x6, am_jk, .long x6, am_jk, .int 0, am_jk] [] (N, am_ts T, (am_u I 66 34 (110 + (900 * x0))), (am_u (am_u (am_u (am_u (am_u (am_u (am_u (am_u (am_u (am_u L 84 1 (Int32.toInt64 x2)) 84 2 (Int32.toInt64 (I 68 (Int32.toNatClampNeg (26 + x2))))) 84 3 (Int32.toInt64 (I 68 (Int32.toNatClampNeg (34 + x2))))) 84 4 (Int32.toInt64 q1)) 84 5 (Int32.toInt64 x3)) 84 6 (Int32.toInt64 x4)) 84 7 (Int32.toInt64 x5)) 84 8 (Int32.toInt64 q2)) 84 9 (Int32.toInt64 q3)) 84 10 (Int32.toInt64 q4)), am_rs r) Q) from ?_)
    obtain ⟨n154, hw⟩ := hw
    refine am_E.junk (lo := [.ref 66, am_jk, .int x1, am_jk, am_jk, am_jk, am_jk, am_jk, am_jk, .long x6, am_jk, .int 0, am_jk]) ?_ (am_le.cons (am_le.jk (am_le.cons (am_le.jk (am_le.jk (am_le.jk (am_le.jk (am_le.jk (am_le.cons (am_le.cons (am_le.cons (am_le.cons (am_le.cons am_le.nil)))))))))))))
    refine sl_235_154 n154 hw (fun o8 o9 I10 L11 hw => ?_)
    · try dsimp only at hw
      refine am_E.run [] 2000 (show (True ∧ Q (some (.long o8)) (N, am_ts T, I10, L11, am_rs r)) from ?_)
      exact ⟨trivial, hK _ _ _ hw⟩
