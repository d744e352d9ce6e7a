def lw_140_2 : Nat → Nat → Int32 → Int32 → (Nat → Nat × Nat) → (Nat → Nat → Option Nat) → am_I → (Int32 → am_I → Prop) → Prop
  | 0, _, _, _, _, _, _, _ => False
  | n + 1, v0, v2, v3, T, r, I, E0 =>
    if (I 1 10) ≤ v3 then
      E0 v3 I
    else
      (am_ts T v0).1 = 9 ∧ ∃ c1, (am_rs r v0 6) = some c1 ∧
      ((am_ts T c1).1 = 20) ∧
      ¬ (v2 < 0 ∨ (am_ts T c1).2 ≤ Int32.toNatClampNeg v2) ∧
      ((am_ts T v0).1 = 9) ∧
      w_141 v0 v2 v3 T r I (fun q2 =>
        ((am_ts T v0).1 = 9) ∧
        w_142 v0 ((I c1 (Int32.toNatClampNeg v2)) + (f_137 v3)) q2 v3 T r I (fun I3 =>
          (am_ts T v0).1 = 9 ∧ ∃ c4, (am_rs r v0 7) = some c4 ∧
          ((am_ts T v0).1 = 9) ∧
          ((am_ts T c4).1 = 20) ∧
          ¬ (((v2 * 8) + v3) < 0 ∨ (am_ts T c4).2 ≤ Int32.toNatClampNeg ((v2 * 8) + v3)) ∧
          (am_ts T v0).1 = 9 ∧ ∃ c5, (am_rs r v0 8) = some c5 ∧
          ((am_ts T v0).1 = 9) ∧
          ((am_ts T c5).1 = 20) ∧
          ¬ (((v2 * 8) + v3) < 0 ∨ (am_ts T c5).2 ≤ Int32.toNatClampNeg ((v2 * 8) + v3)) ∧
          lw_140_2 n v0 v2 (v3 + 1) T r (am_u (am_u I3 c4 (Int32.toNatClampNeg ((v2 * 8) + v3)) (I3 v0 0)) c5 (Int32.toNatClampNeg ((v2 * 8) + v3)) ((am_u I3 c4 (Int32.toNatClampNeg ((v2 * 8) + v3)) (I3 v0 0)) v0 1)) E0))
set_option maxRecDepth 100000 in
theorem sl_140_2 {S : am_S} {d : Nat} {Q : am_Q} {N : Nat} {T : Nat → Nat × Nat} {L : am_J} {r : Nat → Nat → Option Nat} {E0 : Int32 → am_I → Prop} : ∀ (n : Nat) {v0 : Nat} {v2 : Int32} {v3 : Int32} {I : am_I}, lw_140_2 n v0 v2 v3 T r I E0 → (∀ (o3 : Int32) (I1 : am_I), E0 o3 I1 → am_E S 140 (d + 1) 0 0 69 [.ref v0, .ref 1, .int v2, .int o3] [] (N, am_ts T, I1, L, am_rs r) Q) → am_E S 140 (d + 1) 0 0 2 [.ref v0, .ref 1, .int v2, .int v3] [] (N, am_ts T, I, L, am_rs r) Q
  | 0, _, _, _, _, hw, _ => hw.elim
  | n + 1, v0, v2, v3, I, hw, hE0 => by
    have ih := @sl_140_2 S d Q N T L r E0 n
    unfold lw_140_2 at hw
    try dsimp only at hw
    refine am_E.run [16, 69] 2000 (show (if (I 1 10) ≤ v3 then (am_E S 140 (d + 1) 0 0 69 [.ref v0, .ref 1, .int v2, .int v3] [] (N, am_ts T, I, L, am_rs r) Q) else (if (am_ts T v0).1 = 9 ∧ 2 < 4 then (am_E S 140 (d + 1) 0 0 16 [.ref v0, .ref 1, .int v2, .int v3] [am_rv (am_rs r v0 6), .ref 1, .ref v0] (N, am_ts T, I, L, am_rs r) Q) else False)) from ?_)
    by_cases hc : (I 1 10) ≤ v3
    · rw [if_pos hc] at hw ⊢
      exact hE0 _ _ hw
    · rw [if_neg hc] at hw ⊢
      refine am_ifp ⟨hw.1, by decide⟩ ?_
      replace hw := hw.2
      obtain ⟨c1, hx, hw⟩ := hw
      rw [hx]
      refine am_E.run [19] 2000 (show (if (am_ts T c1).1 = 20 then (if v2 < 0 ∨ (am_ts T c1).2 ≤ Int32.toNatClampNeg v2 then False else (am_E S 140 (d + 1) 0 0 19 [.ref v0, .ref 1, .int v2, .int v3] [.int v3, .int (I c1 (Int32.toNatClampNeg v2)), .ref 1, .ref v0] (N, am_ts T, I, L, am_rs r) Q)) else False) from ?_)
      refine am_ifp hw.1 ?_
      replace hw := hw.2
      refine am_ifn hw.1 ?_
      replace hw := hw.2
      refine am_E.go ⟨fun v h9 => v = some (.int (f_137 v3)) ∧ h9 = (N, am_ts T, I, L, am_rs r), s_137 ⟨rfl, rfl⟩, ?_⟩
      intro v h9 hv
      obtain ⟨rfl, rfl⟩ := hv
      refine am_E.run [26] 2000 (show (am_E S 140 (d + 1) 0 0 26 [.ref v0, .ref 1, .int v2, .int v3] [.int v3, .int v2, .ref v0, .int ((I c1 (Int32.toNatClampNeg v2)) + (f_137 v3)), .ref 1, .ref v0] (N, am_ts T, I, L, am_rs r) Q) from ?_)
      refine am_E.go (show (if (List.length (List.take 2 [.int v3, .int v2, .ref v0, .int ((I c1 (Int32.toNatClampNeg v2)) + (f_137 v3)), .ref 1, .ref v0]) = 2 ∧ (am_ts T v0).1 = 9) then _ else False) from ?_)
      refine am_ifp ⟨rfl, hw.1⟩ ?_
      replace hw := hw.2
      refine ⟨am_ki_ N T I L r _, s_141 hw (fun q2 hk => ⟨q2, rfl, rfl, hk⟩), ?_⟩
      intro v h9 hv
      obtain ⟨q2, rfl, rfl, hw⟩ := hv
      try dsimp only at hw
      refine am_E.run [30] 2000 (show (am_E S 140 (d + 1) 0 0 30 [.ref v0, .ref 1, .int v2, .int v3] [.int v3, .int q2, .int ((I c1 (Int32.toNatClampNeg v2)) + (f_137 v3)), .ref 1, .ref v0] (N, am_ts T, I, L, am_rs r) Q) from ?_)
      refine am_E.go (show (if (List.length (List.take 4 [.int v3, .int q2, .int ((I c1 (Int32.toNatClampNeg v2)) + (f_137 v3)), .ref 1, .ref v0]) = 4 ∧ (am_ts T v0).1 = 9) then _ else False) from ?_)
      refine am_ifp ⟨rfl, hw.1⟩ ?_
      replace hw := hw.2
      refine ⟨am_kv_I N T L r _, s_142 hw (fun I3 hk => ⟨I3, rfl, rfl, hk⟩), ?_⟩
      intro v h9 hv
      obtain ⟨I3, rfl, rfl, hw⟩ := hv
      try dsimp only at hw
      refine am_E.run [37] 2000 (show (if (am_ts T v0).1 = 9 ∧ 2 < 4 then (am_E S 140 (d + 1) 0 0 37 [.ref v0, .ref 1, .int v2, .int v3] [am_rv (am_rs r v0 7)] (N, am_ts T, I3, L, am_rs r) Q) else False) from ?_)
      refine am_ifp ⟨hw.1, by decide⟩ ?_
      replace hw := hw.2
      obtain ⟨c4, hx, hw⟩ := hw
      rw [hx]
      refine am_E.run [52] 2000 (show (if (am_ts T v0).1 = 9 ∧ 0 < 4 then (if (am_ts T c4).1 = 20 then (if ((v2 * 8) + v3) < 0 ∨ (am_ts T c4).2 ≤ Int32.toNatClampNeg ((v2 * 8) + v3) then False else (if (am_ts T v0).1 = 9 ∧ 2 < 4 then (am_E S 140 (d + 1) 0 0 52 [.ref v0, .ref 1, .int v2, .int v3] [am_rv (am_rs r v0 8)] (N, am_ts T, (am_u I3 c4 (Int32.toNatClampNeg ((v2 * 8) + v3)) (I3 v0 0)), L, am_rs r) Q) else False)) else False) else False) from ?_)
      refine am_ifp ⟨hw.1, by decide⟩ ?_
      replace hw := hw.2
      refine am_ifp hw.1 ?_
      replace hw := hw.2
      refine am_ifn hw.1 ?_
      replace hw := hw.2
      refine am_ifp ⟨hw.1, by decide⟩ ?_
      replace hw := hw.2
      obtain ⟨c5, hx, hw⟩ := hw
      rw [hx]
      refine am_E.run [2] 2000 (show (if (am_ts T v0).1 = 9 ∧ 0 < 4 then (if (am_ts T c5).1 = 20 then (if ((v2 * 8) + v3) < 0 ∨ (am_ts T c5).2 ≤ Int32.toNatClampNeg ((v2 * 8) + v3) then False else (am_E S 140 (d + 1) 0 0 2 [.ref v0, .ref 1, .int v2, .int (v3 + 1)] [] (N, am_ts T, (am_u (am_u I3 c4 (Int32.toNatClampNeg ((v2 * 8) + v3)) (I3 v0 0)) c5 (Int32.toNatClampNeg ((v2 * 8) + v3)) ((am_u I3 c4 (Int32.toNatClampNeg ((v2 * 8) + v3)) (I3 v0 0)) v0 1)), L, am_rs r) Q)) else False) else False) from ?_)
      refine am_ifp ⟨hw.1, by decide⟩ ?_
      replace hw := hw.2
      refine am_ifp hw.1 ?_
      replace hw := hw.2
      refine am_ifn hw.1 ?_
      replace hw := hw.2
      exact ih hw hE0
/-- KeyKeepers$Rota.weighBehind(LKeyKeepers$Prison;I)V -/
def w_140 (a : Nat) (x1 : Int32) (T : Nat → Nat × Nat) (r : Nat → Nat → Option Nat) (I : am_I) (K : am_I → Prop) : Prop :=
  ∃ n2, lw_140_2 n2 a x1 0 T r I (fun o6 I7 =>
    K I7)
set_option maxRecDepth 100000 in
theorem s_140 {S : am_S} {d : Nat} {N : Nat} {T : Nat → Nat × Nat} {I : am_I} {L : am_J} {r : Nat → Nat → Option Nat} {Q : am_Q} {a : Nat} {x1 : Int32} {K : am_I → Prop} (hw : w_140 a x1 T r I K) (hK : ∀ (I1 : am_I), K I1 → Q (none) (N, am_ts T, I1, L, am_rs r)) : am_E S 140 (d + 1) 0 0 0 [.ref a, .ref 1, .int x1, am_jk] [] (N, am_ts T, I, L, am_rs r) Q := by
  unfold w_140 at hw
  try dsimp only at hw
  refine am_E.run [2] 2000 (show (am_E S 140 (d + 1) 0 0 2 [.ref a, .ref 1, .int x1, .int 0] [] (N, am_ts T, I, L, am_rs r) Q) from ?_)
  obtain ⟨n2, hw⟩ := hw
  refine sl_140_2 n2 hw (fun o6 I7 hw => ?_)
  · try dsimp only at hw
    refine am_E.run [] 2000 (show (True ∧ Q (none) (N, am_ts T, I7, L, am_rs r)) from ?_)
    exact ⟨trivial, hK _ hw⟩
/-- KeyKeepers$Judge.staysOnceAsked(LKeyKeepers$Prison;II)I -/
def w_146 (x1 : Int32) (x2 : Int32) (T : Nat → Nat × Nat) (r : Nat → Nat → Option Nat) (I : am_I) (K : Int32 → am_I → Prop) : Prop :=
  ¬ (x1 < 0 ∨ 8 ≤ Int32.toNatClampNeg x1) ∧
  if (f_20 (I 27 (Int32.toNatClampNeg x1)) x2) = 0 then
    w_108 (I 1 16) T r I (fun q1 =>
      (q1 = none →
        w_116n x1 x2 I (fun q3 I4 =>
          ¬ (x1 < 0 ∨ 8 ≤ Int32.toNatClampNeg x1) ∧
          ¬ (x1 < 0 ∨ 8 ≤ Int32.toNatClampNeg x1) ∧
          ¬ (x1 < 0 ∨ 8 ≤ Int32.toNatClampNeg x1) ∧
          if q3 = 0 then
            ¬ (x1 < 0 ∨ 8 ≤ Int32.toNatClampNeg x1) ∧
            ¬ (x1 < 0 ∨ 8 ≤ Int32.toNatClampNeg x1) ∧
            K (f_20 ((am_u (am_u I4 27 (Int32.toNatClampNeg x1) (f_21 (I4 27 (Int32.toNatClampNeg x1)) x2 1)) 28 (Int32.toNatClampNeg x1) (f_21 (I4 28 (Int32.toNatClampNeg x1)) x2 0)) 28 (Int32.toNatClampNeg x1)) x2) (am_u (am_u I4 27 (Int32.toNatClampNeg x1) (f_21 (I4 27 (Int32.toNatClampNeg x1)) x2 1)) 28 (Int32.toNatClampNeg x1) (f_21 (I4 28 (Int32.toNatClampNeg x1)) x2 0))
          else
            ¬ (x1 < 0 ∨ 8 ≤ Int32.toNatClampNeg x1) ∧
            ¬ (x1 < 0 ∨ 8 ≤ Int32.toNatClampNeg x1) ∧
            K (f_20 ((am_u (am_u I4 27 (Int32.toNatClampNeg x1) (f_21 (I4 27 (Int32.toNatClampNeg x1)) x2 1)) 28 (Int32.toNatClampNeg x1) (f_21 (I4 28 (Int32.toNatClampNeg x1)) x2 1)) 28 (Int32.toNatClampNeg x1)) x2) (am_u (am_u I4 27 (Int32.toNatClampNeg x1) (f_21 (I4 27 (Int32.toNatClampNeg x1)) x2 1)) 28 (Int32.toNatClampNeg x1) (f_21 (I4 28 (Int32.toNatClampNeg x1)) x2 1)))) ∧ ∀ t2, q1 = some t2 →
        w_116s t2 x1 x2 T r I (fun q5 I6 =>
          ¬ (x1 < 0 ∨ 8 ≤ Int32.toNatClampNeg x1) ∧
          ¬ (x1 < 0 ∨ 8 ≤ Int32.toNatClampNeg x1) ∧
          ¬ (x1 < 0 ∨ 8 ≤ Int32.toNatClampNeg x1) ∧
          if q5 = 0 then
            ¬ (x1 < 0 ∨ 8 ≤ Int32.toNatClampNeg x1) ∧
            ¬ (x1 < 0 ∨ 8 ≤ Int32.toNatClampNeg x1) ∧
            K (f_20 ((am_u (am_u I6 27 (Int32.toNatClampNeg x1) (f_21 (I6 27 (Int32.toNatClampNeg x1)) x2 1)) 28 (Int32.toNatClampNeg x1) (f_21 (I6 28 (Int32.toNatClampNeg x1)) x2 0)) 28 (Int32.toNatClampNeg x1)) x2) (am_u (am_u I6 27 (Int32.toNatClampNeg x1) (f_21 (I6 27 (Int32.toNatClampNeg x1)) x2 1)) 28 (Int32.toNatClampNeg x1) (f_21 (I6 28 (Int32.toNatClampNeg x1)) x2 0))
          else
            ¬ (x1 < 0 ∨ 8 ≤ Int32.toNatClampNeg x1) ∧
            ¬ (x1 < 0 ∨ 8 ≤ Int32.toNatClampNeg x1) ∧
            K (f_20 ((am_u (am_u I6 27 (Int32.toNatClampNeg x1) (f_21 (I6 27 (Int32.toNatClampNeg x1)) x2 1)) 28 (Int32.toNatClampNeg x1) (f_21 (I6 28 (Int32.toNatClampNeg x1)) x2 1)) 28 (Int32.toNatClampNeg x1)) x2) (am_u (am_u I6 27 (Int32.toNatClampNeg x1) (f_21 (I6 27 (Int32.toNatClampNeg x1)) x2 1)) 28 (Int32.toNatClampNeg x1) (f_21 (I6 28 (Int32.toNatClampNeg x1)) x2 1))))
  else
    ¬ (x1 < 0 ∨ 8 ≤ Int32.toNatClampNeg x1) ∧
    K (f_20 (I 28 (Int32.toNatClampNeg x1)) x2) I
set_option maxRecDepth 100000 in
theorem s_146 {S : am_S} {d : Nat} {N : Nat} {T : Nat → Nat × Nat} {I : am_I} {L : am_J} {r : Nat → Nat → Option Nat} {Q : am_Q} {x1 : Int32} {x2 : Int32} {K : Int32 → am_I → Prop} (hw : w_146 x1 x2 T r I K) (hK : ∀ (q : Int32) (I1 : am_I), K q I1 → Q (some (.int q)) (N, am_ts T, I1, L, am_rs r)) : am_E S 146 (d + 5) 0 0 0 [.ref 23, .ref 1, .int x1, .int x2, am_jk] [] (N, am_ts T, I, L, am_rs r) Q := by
  unfold w_146 at hw
  try dsimp only at hw
  refine am_E.run [7] 2000 (show (if x1 < 0 ∨ 8 ≤ Int32.toNatClampNeg x1 then False else (am_E S 146 (d + 5) 0 0 7 [.ref 23, .ref 1, .int x1, .int x2, am_jk] [.int x2, .int (I 27 (Int32.toNatClampNeg x1))] (N, am_ts T, I, L, am_rs r) Q)) from ?_)
  refine am_ifn hw.1 ?_
  replace hw := hw.2
  refine am_E.go ⟨fun v h9 => v = some (.int (f_20 (I 27 (Int32.toNatClampNeg x1)) x2)) ∧ h9 = (N, am_ts T, I, L, am_rs r), s_20 ⟨rfl, rfl⟩, ?_⟩
  intro v h9 hv
  obtain ⟨rfl, rfl⟩ := hv
  refine am_E.run [20, 80] 2000 (show (if (f_20 (I 27 (Int32.toNatClampNeg x1)) x2) = 0 then (am_E S 146 (d + 5) 0 0 20 [.ref 23, .ref 1, .int x1, .int x2, am_jk] [.int (I 1 16), .ref 1, .ref 1, .ref 23] (N, am_ts T, I, L, am_rs r) Q) else (if x1 < 0 ∨ 8 ≤ Int32.toNatClampNeg x1 then False else (am_E S 146 (d + 5) 0 0 80 [.ref 23, .ref 1, .int x1, .int x2, am_jk] [.int x2, .int (I 28 (Int32.toNatClampNeg x1))] (N, am_ts T, I, L, am_rs r) Q))) from ?_)
  by_cases hc : (f_20 (I 27 (Int32.toNatClampNeg x1)) x2) = 0
  · rw [if_pos hc] at hw ⊢
    refine am_E.go ⟨am_kr_ N T I L r _, s_108 hw (fun q1 hk => ⟨q1, rfl, rfl, hk⟩), ?_⟩
    intro v h9 hv
    obtain ⟨q1, rfl, rfl, hw⟩ := hv
    try dsimp only at hw
    show (am_E S 146 (d + 5) 0 0 23 [.ref 23, .ref 1, .int x1, .int x2, am_jk] [am_rv q1, .ref 1, .ref 23] (N, am_ts T, I, L, am_rs r) Q)
    cases hx : q1 with
    | none =>
      replace hw := hw.1 hx
      refine am_E.run [25] 2000 (show (am_E S 146 (d + 5) 0 0 25 [.ref 23, .ref 1, .int x1, .int x2, am_jk] [.int x2, .int x1, .null, .ref 1, .ref 23] (N, am_ts T, I, L, am_rs r) Q) from ?_)
      refine am_E.go ⟨am_ki_I N T L r _, s_116n hw (fun q3 I4 hk => ⟨q3, I4, rfl, rfl, hk⟩), ?_⟩
      intro v h9 hv
      obtain ⟨q3, I4, rfl, rfl, hw⟩ := hv
      try dsimp only at hw
      refine am_E.run [43] 2000 (show (if x1 < 0 ∨ 8 ≤ Int32.toNatClampNeg x1 then False else (am_E S 146 (d + 5) 0 0 43 [.ref 23, .ref 1, .int x1, .int x2, .int q3] [.int 1, .int x2, .int (I4 27 (Int32.toNatClampNeg x1)), .int x1, .ref 27] (N, am_ts T, I4, L, am_rs r) Q)) from ?_)
      refine am_ifn hw.1 ?_
      replace hw := hw.2
      refine am_E.go ⟨fun v h9 => v = some (.int (f_21 (I4 27 (Int32.toNatClampNeg x1)) x2 1)) ∧ h9 = (N, am_ts T, I4, L, am_rs r), s_21 ⟨rfl, rfl⟩, ?_⟩
      intro v h9 hv
      obtain ⟨rfl, rfl⟩ := hv
      refine am_E.run [69] 2000 (show (if x1 < 0 ∨ 8 ≤ Int32.toNatClampNeg x1 then False else (if x1 < 0 ∨ 8 ≤ Int32.toNatClampNeg x1 then False else (if q3 = 0 then (am_E S 146 (d + 5) 0 0 69 [.ref 23, .ref 1, .int x1, .int x2, .int q3] [.int 0, .int x2, .int (I4 28 (Int32.toNatClampNeg x1)), .int x1, .ref 28] (N, am_ts T, (am_u I4 27 (Int32.toNatClampNeg x1) (f_21 (I4 27 (Int32.toNatClampNeg x1)) x2 1)), L, am_rs r) Q) else (am_E S 146 (d + 5) 0 0 69 [.ref 23, .ref 1, .int x1, .int x2, .int q3] [.int 1, .int x2, .int (I4 28 (Int32.toNatClampNeg x1)), .int x1, .ref 28] (N, am_ts T, (am_u I4 27 (Int32.toNatClampNeg x1) (f_21 (I4 27 (Int32.toNatClampNeg x1)) x2 1)), L, am_rs r) Q)))) from ?_)
      refine am_ifn hw.1 ?_
      replace hw := hw.2
      refine am_ifn hw.1 ?_
      replace hw := hw.2
      by_cases hc : q3 = 0
      · rw [if_pos hc] at hw ⊢
        refine am_E.go ⟨fun v h9 => v = some (.int (f_21 (I4 28 (Int32.toNatClampNeg x1)) x2 0)) ∧ h9 = (N, am_ts T, (am_u I4 27 (Int32.toNatClampNeg x1) (f_21 (I4 27 (Int32.toNatClampNeg x1)) x2 1)), L, am_rs r), s_21 ⟨rfl, rfl⟩, ?_⟩
        intro v h9 hv
        obtain ⟨rfl, rfl⟩ := hv
        refine am_E.run [80] 2000 (show (if x1 < 0 ∨ 8 ≤ Int32.toNatClampNeg x1 then False else (if x1 < 0 ∨ 8 ≤ Int32.toNatClampNeg x1 then False else (am_E S 146 (d + 5) 0 0 80 [.ref 23, .ref 1, .int x1, .int x2, .int q3] [.int x2, .int ((am_u (am_u I4 27 (Int32.toNatClampNeg x1) (f_21 (I4 27 (Int32.toNatClampNeg x1)) x2 1)) 28 (Int32.toNatClampNeg x1) (f_21 (I4 28 (Int32.toNatClampNeg x1)) x2 0)) 28 (Int32.toNatClampNeg x1))] (N, am_ts T, (am_u (am_u I4 27 (Int32.toNatClampNeg x1) (f_21 (I4 27 (Int32.toNatClampNeg x1)) x2 1)) 28 (Int32.toNatClampNeg x1) (f_21 (I4 28 (Int32.toNatClampNeg x1)) x2 0)), L, am_rs r) Q))) from ?_)
        refine am_ifn hw.1 ?_
        replace hw := hw.2
        refine am_ifn hw.1 ?_
        replace hw := hw.2
        refine am_E.go ⟨fun v h9 => v = some (.int (f_20 ((am_u (am_u I4 27 (Int32.toNatClampNeg x1) (f_21 (I4 27 (Int32.toNatClampNeg x1)) x2 1)) 28 (Int32.toNatClampNeg x1) (f_21 (I4 28 (Int32.toNatClampNeg x1)) x2 0)) 28 (Int32.toNatClampNeg x1)) x2)) ∧ h9 = (N, am_ts T, (am_u (am_u I4 27 (Int32.toNatClampNeg x1) (f_21 (I4 27 (Int32.toNatClampNeg x1)) x2 1)) 28 (Int32.toNatClampNeg x1) (f_21 (I4 28 (Int32.toNatClampNeg x1)) x2 0)), L, am_rs r), s_20 ⟨rfl, rfl⟩, ?_⟩
        intro v h9 hv
        obtain ⟨rfl, rfl⟩ := hv
        refine am_E.run [] 2000 (show (True ∧ Q (some (.int (f_20 ((am_u (am_u I4 27 (Int32.toNatClampNeg x1) (f_21 (I4 27 (Int32.toNatClampNeg x1)) x2 1)) 28 (Int32.toNatClampNeg x1) (f_21 (I4 28 (Int32.toNatClampNeg x1)) x2 0)) 28 (Int32.toNatClampNeg x1)) x2))) (N, am_ts T, (am_u (am_u I4 27 (Int32.toNatClampNeg x1) (f_21 (I4 27 (Int32.toNatClampNeg x1)) x2 1)) 28 (Int32.toNatClampNeg x1) (f_21 (I4 28 (Int32.toNatClampNeg x1)) x2 0)), L, am_rs r)) from ?_)
        exact ⟨trivial, hK _ _ hw⟩
      · rw [if_neg hc] at hw ⊢
        refine am_E.go ⟨fun v h9 => v = some (.int (f_21 (I4 28 (Int32.toNatClampNeg x1)) x2 1)) ∧ h9 = (N, am_ts T, (am_u I4 27 (Int32.toNatClampNeg x1) (f_21 (I4 27 (Int32.toNatClampNeg x1)) x2 1)), L, am_rs r), s_21 ⟨rfl, rfl⟩, ?_⟩
        intro v h9 hv
        obtain ⟨rfl, rfl⟩ := hv
        refine am_E.run [80] 2000 (show (if x1 < 0 ∨ 8 ≤ Int32.toNatClampNeg x1 then False else (if x1 < 0 ∨ 8 ≤ Int32.toNatClampNeg x1 then False else (am_E S 146 (d + 5) 0 0 80 [.ref 23, .ref 1, .int x1, .int x2, .int q3] [.int x2, .int ((am_u (am_u I4 27 (Int32.toNatClampNeg x1) (f_21 (I4 27 (Int32.toNatClampNeg x1)) x2 1)) 28 (Int32.toNatClampNeg x1) (f_21 (I4 28 (Int32.toNatClampNeg x1)) x2 1)) 28 (Int32.toNatClampNeg x1))] (N, am_ts T, (am_u (am_u I4 27 (Int32.toNatClampNeg x1) (f_21 (I4 27 (Int32.toNatClampNeg x1)) x2 1)) 28 (Int32.toNatClampNeg x1) (f_21 (I4 28 (Int32.toNatClampNeg x1)) x2 1)), L, am_rs r) Q))) from ?_)
        refine am_ifn hw.1 ?_
        replace hw := hw.2
        refine am_ifn hw.1 ?_
        replace hw := hw.2
        refine am_E.go ⟨fun v h9 => v = some (.int (f_20 ((am_u (am_u I4 27 (Int32.toNatClampNeg x1) (f_21 (I4 27 (Int32.toNatClampNeg x1)) x2 1)) 28 (Int32.toNatClampNeg x1) (f_21 (I4 28 (Int32.toNatClampNeg x1)) x2 1)) 28 (Int32.toNatClampNeg x1)) x2)) ∧ h9 = (N, am_ts T, (am_u (am_u I4 27 (Int32.toNatClampNeg x1) (f_21 (I4 27 (Int32.toNatClampNeg x1)) x2 1)) 28 (Int32.toNatClampNeg x1) (f_21 (I4 28 (Int32.toNatClampNeg x1)) x2 1)), L, am_rs r), s_20 ⟨rfl, rfl⟩, ?_⟩
        intro v h9 hv
        obtain ⟨rfl, rfl⟩ := hv
        refine am_E.run [] 2000 (show (True ∧ Q (some (.int (f_20 ((am_u (am_u I4 27 (Int32.toNatClampNeg x1) (f_21 (I4 27 (Int32.toNatClampNeg x1)) x2 1)) 28 (Int32.toNatClampNeg x1) (f_21 (I4 28 (Int32.toNatClampNeg x1)) x2 1)) 28 (Int32.toNatClampNeg x1)) x2))) (N, am_ts T, (am_u (am_u I4 27 (Int32.toNatClampNeg x1) (f_21 (I4 27 (Int32.toNatClampNeg x1)) x2 1)) 28 (Int32.toNatClampNeg x1) (f_21 (I4 28 (Int32.toNatClampNeg x1)) x2 1)), L, am_rs r)) from ?_)
        exact ⟨trivial, hK _ _ hw⟩
    | some t2 =>
      replace hw := hw.2 t2 hx
      refine am_E.run [25] 2000 (show (am_E S 146 (d + 5) 0 0 25 [.ref 23, .ref 1, .int x1, .int x2, am_jk] [.int x2, .int x1, .ref t2, .ref 1, .ref 23] (N, am_ts T, I, L, am_rs r) Q) from ?_)
      refine am_E.go ⟨am_ki_I N T L r _, s_116s hw (fun q5 I6 hk => ⟨q5, I6, rfl, rfl, hk⟩), ?_⟩
      intro v h9 hv
      obtain ⟨q5, I6, rfl, rfl, hw⟩ := hv
      try dsimp only at hw
      refine am_E.run [43] 2000 (show (if x1 < 0 ∨ 8 ≤ Int32.toNatClampNeg x1 then False else (am_E S 146 (d + 5) 0 0 43 [.ref 23, .ref 1, .int x1, .int x2, .int q5] [.int 1, .int x2, .int (I6 27 (Int32.toNatClampNeg x1)), .int x1, .ref 27] (N, am_ts T, I6, L, am_rs r) Q)) from ?_)
      refine am_ifn hw.1 ?_
      replace hw := hw.2
      refine am_E.go ⟨fun v h9 => v = some (.int (f_21 (I6 27 (Int32.toNatClampNeg x1)) x2 1)) ∧ h9 = (N, am_ts T, I6, L, am_rs r), s_21 ⟨rfl, rfl⟩, ?_⟩
      intro v h9 hv
      obtain ⟨rfl, rfl⟩ := hv
      refine am_E.run [69] 2000 (show (if x1 < 0 ∨ 8 ≤ Int32.toNatClampNeg x1 then False else (if x1 < 0 ∨ 8 ≤ Int32.toNatClampNeg x1 then False else (if q5 = 0 then (am_E S 146 (d + 5) 0 0 69 [.ref 23, .ref 1, .int x1, .int x2, .int q5] [.int 0, .int x2, .int (I6 28 (Int32.toNatClampNeg x1)), .int x1, .ref 28] (N, am_ts T, (am_u I6 27 (Int32.toNatClampNeg x1) (f_21 (I6 27 (Int32.toNatClampNeg x1)) x2 1)), L, am_rs r) Q) else (am_E S 146 (d + 5) 0 0 69 [.ref 23, .ref 1, .int x1, .int x2, .int q5] [.int 1, .int x2, .int (I6 28 (Int32.toNatClampNeg x1)), .int x1, .ref 28] (N, am_ts T, (am_u I6 27 (Int32.toNatClampNeg x1) (f_21 (I6 27 (Int32.toNatClampNeg x1)) x2 1)), L, am_rs r) Q)))) from ?_)
      refine am_ifn hw.1 ?_
      replace hw := hw.2
      refine am_ifn hw.1 ?_
      replace hw := hw.2
      by_cases hc : q5 = 0
      · rw [if_pos hc] at hw ⊢
        refine am_E.go ⟨fun v h9 => v = some (.int (f_21 (I6 28 (Int32.toNatClampNeg x1)) x2 0)) ∧ h9 = (N, am_ts T, (am_u I6 27 (Int32.toNatClampNeg x1) (f_21 (I6 27 (Int32.toNatClampNeg x1)) x2 1)), L, am_rs r), s_21 ⟨rfl, rfl⟩, ?_⟩
        intro v h9 hv
        obtain ⟨rfl, rfl⟩ := hv
        refine am_E.run [80] 2000 (show (if x1 < 0 ∨ 8 ≤ Int32.toNatClampNeg x1 then False else (if x1 < 0 ∨ 8 ≤ Int32.toNatClampNeg x1 then False else (am_E S 146 (d + 5) 0 0 80 [.ref 23, .ref 1, .int x1, .int x2, .int q5] [.int x2, .int ((am_u (am_u I6 27 (Int32.toNatClampNeg x1) (f_21 (I6 27 (Int32.toNatClampNeg x1)) x2 1)) 28 (Int32.toNatClampNeg x1) (f_21 (I6 28 (Int32.toNatClampNeg x1)) x2 0)) 28 (Int32.toNatClampNeg x1))] (N, am_ts T, (am_u (am_u I6 27 (Int32.toNatClampNeg x1) (f_21 (I6 27 (Int32.toNatClampNeg x1)) x2 1)) 28 (Int32.toNatClampNeg x1) (f_21 (I6 28 (Int32.toNatClampNeg x1)) x2 0)), L, am_rs r) Q))) from ?_)
        refine am_ifn hw.1 ?_
        replace hw := hw.2
        refine am_ifn hw.1 ?_
        replace hw := hw.2
        refine am_E.go ⟨fun v h9 => v = some (.int (f_20 ((am_u (am_u I6 27 (Int32.toNatClampNeg x1) (f_21 (I6 27 (Int32.toNatClampNeg x1)) x2 1)) 28 (Int32.toNatClampNeg x1) (f_21 (I6 28 (Int32.toNatClampNeg x1)) x2 0)) 28 (Int32.toNatClampNeg x1)) x2)) ∧ h9 = (N, am_ts T, (am_u (am_u I6 27 (Int32.toNatClampNeg x1) (f_21 (I6 27 (Int32.toNatClampNeg x1)) x2 1)) 28 (Int32.toNatClampNeg x1) (f_21 (I6 28 (Int32.toNatClampNeg x1)) x2 0)), L, am_rs r), s_20 ⟨rfl, rfl⟩, ?_⟩
        intro v h9 hv
        obtain ⟨rfl, rfl⟩ := hv
        refine am_E.run [] 2000 (show (True ∧ Q (some (.int (f_20 ((am_u (am_u I6 27 (Int32.toNatClampNeg x1) (f_21 (I6 27 (Int32.toNatClampNeg x1)) x2 1)) 28 (Int32.toNatClampNeg x1) (f_21 (I6 28 (Int32.toNatClampNeg x1)) x2 0)) 28 (Int32.toNatClampNeg x1)) x2))) (N, am_ts T, (am_u (am_u I6 27 (Int32.toNatClampNeg x1) (f_21 (I6 27 (Int32.toNatClampNeg x1)) x2 1)) 28 (Int32.toNatClampNeg x1) (f_21 (I6 28 (Int32.toNatClampNeg x1)) x2 0)), L, am_rs r)) from ?_)
        exact ⟨trivial, hK _ _ hw⟩
      · rw [if_neg hc] at hw ⊢
        refine am_E.go ⟨fun v h9 => v = some (.int (f_21 (I6 28 (Int32.toNatClampNeg x1)) x2 1)) ∧ h9 = (N, am_ts T, (am_u I6 27 (Int32.toNatClampNeg x1) (f_21 (I6 27 (Int32.toNatClampNeg x1)) x2 1)), L, am_rs r), s_21 ⟨rfl, rfl⟩, ?_⟩
        intro v h9 hv
        obtain ⟨rfl, rfl⟩ := hv
        refine am_E.run [80] 2000 (show (if x1 < 0 ∨ 8 ≤ Int32.toNatClampNeg x1 then False else (if x1 < 0 ∨ 8 ≤ Int32.toNatClampNeg x1 then False else (am_E S 146 (d + 5) 0 0 80 [.ref 23, .ref 1, .int x1, .int x2, .int q5] [.int x2, .int ((am_u (am_u I6 27 (Int32.toNatClampNeg x1) (f_21 (I6 27 (Int32.toNatClampNeg x1)) x2 1)) 28 (Int32.toNatClampNeg x1) (f_21 (I6 28 (Int32.toNatClampNeg x1)) x2 1)) 28 (Int32.toNatClampNeg x1))] (N, am_ts T, (am_u (am_u I6 27 (Int32.toNatClampNeg x1) (f_21 (I6 27 (Int32.toNatClampNeg x1)) x2 1)) 28 (Int32.toNatClampNeg x1) (f_21 (I6 28 (Int32.toNatClampNeg x1)) x2 1)), L, am_rs r) Q))) from ?_)
        refine am_ifn hw.1 ?_
        replace hw := hw.2
        refine am_ifn hw.1 ?_
        replace hw := hw.2
        refine am_E.go ⟨fun v h9 => v = some (.int (f_20 ((am_u (am_u I6 27 (Int32.toNatClampNeg x1) (f_21 (I6 27 (Int32.toNatClampNeg x1)) x2 1)) 28 (Int32.toNatClampNeg x1) (f_21 (I6 28 (Int32.toNatClampNeg x1)) x2 1)) 28 (Int32.toNatClampNeg x1)) x2)) ∧ h9 = (N, am_ts T, (am_u (am_u I6 27 (Int32.toNatClampNeg x1) (f_21 (I6 27 (Int32.toNatClampNeg x1)) x2 1)) 28 (Int32.toNatClampNeg x1) (f_21 (I6 28 (Int32.toNatClampNeg x1)) x2 1)), L, am_rs r), s_20 ⟨rfl, rfl⟩, ?_⟩
        intro v h9 hv
        obtain ⟨rfl, rfl⟩ := hv
        refine am_E.run [] 2000 (show (True ∧ Q (some (.int (f_20 ((am_u (am_u I6 27 (Int32.toNatClampNeg x1) (f_21 (I6 27 (Int32.toNatClampNeg x1)) x2 1)) 28 (Int32.toNatClampNeg x1) (f_21 (I6 28 (Int32.toNatClampNeg x1)) x2 1)) 28 (Int32.toNatClampNeg x1)) x2))) (N, am_ts T, (am_u (am_u I6 27 (Int32.toNatClampNeg x1) (f_21 (I6 27 (Int32.toNatClampNeg x1)) x2 1)) 28 (Int32.toNatClampNeg x1) (f_21 (I6 28 (Int32.toNatClampNeg x1)) x2 1)), L, am_rs r)) from ?_)
        exact ⟨trivial, hK _ _ hw⟩
  · rw [if_neg hc] at hw ⊢
    refine am_ifn hw.1 ?_
    replace hw := hw.2
    refine am_E.go ⟨fun v h9 => v = some (.int (f_20 (I 28 (Int32.toNatClampNeg x1)) x2)) ∧ h9 = (N, am_ts T, I, L, am_rs r), s_20 ⟨rfl, rfl⟩, ?_⟩
    intro v h9 hv
    obtain ⟨rfl, rfl⟩ := hv
    refine am_E.run [] 2000 (show (True ∧ Q (some (.int (f_20 (I 28 (Int32.toNatClampNeg x1)) x2))) (N, am_ts T, I, L, am_rs r)) from ?_)
    exact ⟨trivial, hK _ _ hw⟩
def lw_148_5 : Nat → Int32 → Int32 → Int32 → am_I → (Int32 → Int32 → Prop) → Prop
  | 0, _, _, _, _, _ => False
  | n + 1, v2, v3, v4, I, E0 =>
    if v2 ≤ v4 then
      E0 v3 v4
    else
      if (6 : Int32) ≤ v4 then
        E0 v3 v4
      else
        lw_148_5 n v2 (v3 * (I 1 10)) (v4 + 1) I E0
set_option maxRecDepth 100000 in
theorem sl_148_5 {S : am_S} {d : Nat} {Q : am_Q} {N : Nat} {T : Nat → Nat × Nat} {I : am_I} {L : am_J} {r : Nat → Nat → Option Nat} {E0 : Int32 → Int32 → Prop} : ∀ (n : Nat) {v2 : Int32} {v3 : Int32} {v4 : Int32}, lw_148_5 n v2 v3 v4 I E0 → (∀ (o3 : Int32) (o4 : Int32), E0 o3 o4 → am_E S 148 (d + 2) 0 0 31 [am_jk, .ref 1, .int v2, .int o3, .int o4, am_jk, am_jk] [] (N, am_ts T, I, L, am_rs r) Q) → am_E S 148 (d + 2) 0 0 5 [am_jk, .ref 1, .int v2, .int v3, .int v4, am_jk, am_jk] [] (N, am_ts T, I, L, am_rs r) Q
  | 0, _, _, _, hw, _ => hw.elim
  | n + 1, v2, v3, v4, hw, hE0 => by
    have ih := @sl_148_5 S d Q N T I L r E0 n
    unfold lw_148_5 at hw
    try dsimp only at hw
    refine am_E.run [5, 31] 2000 (show (if v2 ≤ v4 then (am_E S 148 (d + 2) 0 0 31 [am_jk, .ref 1, .int v2, .int v3, .int v4, am_jk, am_jk] [] (N, am_ts T, I, L, am_rs r) Q) else (if (6 : Int32) ≤ v4 then (am_E S 148 (d + 2) 0 0 31 [am_jk, .ref 1, .int v2, .int v3, .int v4, am_jk, am_jk] [] (N, am_ts T, I, L, am_rs r) Q) else (am_E S 148 (d + 2) 0 0 5 [am_jk, .ref 1, .int v2, .int (v3 * (I 1 10)), .int (v4 + 1), am_jk, am_jk] [] (N, am_ts T, I, L, am_rs r) Q))) from ?_)
    by_cases hc : v2 ≤ v4
    · rw [if_pos hc] at hw ⊢
      exact hE0 _ _ hw
    · rw [if_neg hc] at hw ⊢
      by_cases hc : (6 : Int32) ≤ v4
      · rw [if_pos hc] at hw ⊢
        exact hE0 _ _ hw
      · rw [if_neg hc] at hw ⊢
        exact ih hw hE0
def lw_148_52 : Nat → Int32 → Int32 → Int32 → Int32 → Int32 → am_I → (Int32 → Int32 → Prop) → Prop
  | 0, _, _, _, _, _, _, _ => False
  | n + 1, v2, v3, v4, v5, v6, I, E0 =>
    if (I 1 10) ≤ v6 then
      E0 v4 v6
    else
      w_149 v5 v6 I (fun q3 =>
        if q3 = 0 then
          lw_148_52 n v2 v3 (v4 + 0) v5 (v6 + 1) I E0
        else
          lw_148_52 n v2 v3 (v4 + 1) v5 (v6 + 1) I E0)
set_option maxRecDepth 100000 in
theorem sl_148_52 {S : am_S} {d : Nat} {Q : am_Q} {N : Nat} {T : Nat → Nat × Nat} {I : am_I} {L : am_J} {r : Nat → Nat → Option Nat} {E0 : Int32 → Int32 → Prop} : ∀ (n : Nat) {v2 : Int32} {v3 : Int32} {v4 : Int32} {v5 : Int32} {v6 : Int32}, lw_148_52 n v2 v3 v4 v5 v6 I E0 → (∀ (o4 : Int32) (o6 : Int32), E0 o4 o6 → am_E S 148 (d + 2) 0 0 88 [am_jk, .ref 1, .int v2, .int v3, .int o4, .int v5, .int o6] [] (N, am_ts T, I, L, am_rs r) Q) → am_E S 148 (d + 2) 0 0 52 [am_jk, .ref 1, .int v2, .int v3, .int v4, .int v5, .int v6] [] (N, am_ts T, I, L, am_rs r) Q
  | 0, _, _, _, _, _, hw, _ => hw.elim
  | n + 1, v2, v3, v4, v5, v6, hw, hE0 => by
    have ih := @sl_148_52 S d Q N T I L r E0 n
    unfold lw_148_52 at hw
    try dsimp only at hw
    refine am_E.run [68, 88] 2000 (show (if (I 1 10) ≤ v6 then (am_E S 148 (d + 2) 0 0 88 [am_jk, .ref 1, .int v2, .int v3, .int v4, .int v5, .int v6] [] (N, am_ts T, I, L, am_rs r) Q) else (am_E S 148 (d + 2) 0 0 68 [am_jk, .ref 1, .int v2, .int v3, .int v4, .int v5, .int v6] [.int v6, .int v5, .ref 1, .int v4] (N, am_ts T, I, L, am_rs r) Q)) from ?_)
    by_cases hc : (I 1 10) ≤ v6
    · rw [if_pos hc] at hw ⊢
      exact hE0 _ _ hw
    · rw [if_neg hc] at hw ⊢
      refine am_E.go ⟨am_ki_ N T I L r _, s_149 hw (fun q3 hk => ⟨q3, rfl, rfl, hk⟩), ?_⟩
      intro v h9 hv
      obtain ⟨q3, rfl, rfl, hw⟩ := hv
      try dsimp only at hw
      refine am_E.run [52] 2000 (show (if q3 = 0 then (am_E S 148 (d + 2) 0 0 52 [am_jk, .ref 1, .int v2, .int v3, .int (v4 + 0), .int v5, .int (v6 + 1)] [] (N, am_ts T, I, L, am_rs r) Q) else (am_E S 148 (d + 2) 0 0 52 [am_jk, .ref 1, .int v2, .int v3, .int (v4 + 1), .int v5, .int (v6 + 1)] [] (N, am_ts T, I, L, am_rs r) Q)) from ?_)
      by_cases hc : q3 = 0
      · rw [if_pos hc] at hw ⊢
        exact ih hw hE0
      · rw [if_neg hc] at hw ⊢
        exact ih hw hE0
def lw_148_37 : Nat → Int32 → Int32 → Int32 → Int32 → am_I → (Int32 → Int32 → Prop) → Prop
  | 0, _, _, _, _, _, _ => False
  | n + 1, v2, v3, v4, v5, I, E0 =>
    if (I 1 10) ≤ v5 then
      E0 v4 v5
    else
      ∃ n52, lw_148_52 n52 v2 v3 v4 v5 (v5 + 1) I (fun o4 o5 =>
        lw_148_37 n v2 v3 o4 (v5 + 1) I E0)
set_option maxRecDepth 100000 in
theorem sl_148_37 {S : am_S} {d : Nat} {Q : am_Q} {N : Nat} {T : Nat → Nat × Nat} {I : am_I} {L : am_J} {r : Nat → Nat → Option Nat} {E0 : Int32 → Int32 → Prop} : ∀ (n : Nat) {v2 : Int32} {v3 : Int32} {v4 : Int32} {v5 : Int32}, lw_148_37 n v2 v3 v4 v5 I E0 → (∀ (o4 : Int32) (o5 : Int32), E0 o4 o5 → am_E S 148 (d + 2) 0 0 94 [am_jk, .ref 1, .int v2, .int v3, .int o4, .int o5, am_jk] [] (N, am_ts T, I, L, am_rs r) Q) → am_E S 148 (d + 2) 0 0 37 [am_jk, .ref 1, .int v2, .int v3, .int v4, .int v5, am_jk] [] (N, am_ts T, I, L, am_rs r) Q
  | 0, _, _, _, _, hw, _ => hw.elim
  | n + 1, v2, v3, v4, v5, hw, hE0 => by
    have ih := @sl_148_37 S d Q N T I L r E0 n
    unfold lw_148_37 at hw
    try dsimp only at hw
    refine am_E.run [52, 94] 2000 (show (if (I 1 10) ≤ v5 then (am_E S 148 (d + 2) 0 0 94 [am_jk, .ref 1, .int v2, .int v3, .int v4, .int v5, am_jk] [] (N, am_ts T, I, L, am_rs r) Q) else (am_E S 148 (d + 2) 0 0 52 [am_jk, .ref 1, .int v2, .int v3, .int v4, .int v5, .int (v5 + 1)] [] (N, am_ts T, I, L, am_rs r) Q)) from ?_)
    by_cases hc : (I 1 10) ≤ v5
    · rw [if_pos hc] at hw ⊢
      exact hE0 _ _ hw
    · rw [if_neg hc] at hw ⊢
      obtain ⟨n52, hw⟩ := hw
      refine sl_148_52 n52 hw (fun o4 o5 hw => ?_)
      · try dsimp only at hw
        refine am_E.run [37] 2000 (show (am_E S 148 (d + 2) 0 0 37 [am_jk, .ref 1, .int v2, .int v3, .int o4, .int (v5 + 1), .int o5] [] (N, am_ts T, I, L, am_rs r) Q) from ?_)
        exact am_E.junk (ih hw hE0) (am_le.cons (am_le.cons (am_le.cons (am_le.cons (am_le.cons (am_le.cons (am_le.jk am_le.nil)))))))
/-- KeyKeepers$Doors.waysToPart(LKeyKeepers$Prison;I)I -/
def w_148 (x1 : Int32) (I : am_I) (K : Int32 → Prop) : Prop :=
  ∃ n5, lw_148_5 n5 x1 1 0 I (fun o1 o2 =>
    ∃ n37, lw_148_37 n37 x1 o1 0 0 I (fun o6 o7 =>
      K ((o1 - (I 1 10)) - (o6 * ((1 <<< (x1 &&& 31)) - 2)))))
set_option maxRecDepth 100000 in
theorem s_148 {S : am_S} {d : Nat} {N : Nat} {T : Nat → Nat × Nat} {I : am_I} {L : am_J} {r : Nat → Nat → Option Nat} {Q : am_Q} {x1 : Int32} {K : Int32 → Prop} (hw : w_148 x1 I K) (hK : ∀ (q : Int32), K q → Q (some (.int q)) (N, am_ts T, I, L, am_rs r)) : am_E S 148 (d + 2) 0 0 0 [.ref 55, .ref 1, .int x1, am_jk, am_jk, am_jk, am_jk] [] (N, am_ts T, I, L, am_rs r) Q := by
  unfold w_148 at hw
  try dsimp only at hw
  refine am_E.run [5] 2000 (show (am_E S 148 (d + 2) 0 0 5 [.ref 55, .ref 1, .int x1, .int 1, .int 0, am_jk, am_jk] [] (N, am_ts T, I, L, am_rs r) Q) from ?_)
  obtain ⟨n5, hw⟩ := hw
  refine am_E.junk (lo := [am_jk, .ref 1, .int x1, .int 1, .int 0, am_jk, am_jk]) ?_ (am_le.jk (am_le.cons (am_le.cons (am_le.cons (am_le.cons (am_le.cons (am_le.cons am_le.nil)))))))
  refine sl_148_5 n5 hw (fun o1 o2 hw => ?_)
  · try dsimp only at hw
    refine am_E.run [37] 2000 (show (am_E S 148 (d + 2) 0 0 37 [am_jk, .ref 1, .int x1, .int o1, .int 0, .int 0, am_jk] [] (N, am_ts T, I, L, am_rs r) Q) from ?_)
    obtain ⟨n37, hw⟩ := hw
    refine sl_148_37 n37 hw (fun o6 o7 hw => ?_)
    · try dsimp only at hw
      refine am_E.run [] 2000 (show (True ∧ Q (some (.int ((o1 - (I 1 10)) - (o6 * ((1 <<< (x1 &&& 31)) - 2))))) (N, am_ts T, I, L, am_rs r)) from ?_)
      exact ⟨trivial, hK _ hw⟩
def lw_150_2 : Nat → Int32 → Int32 → am_I → (Int32 → am_I → Prop) → Prop
  | 0, _, _, _, _ => False
  | n + 1, v2, v3, I, E0 =>
    if (6 : Int32) ≤ v3 then
      E0 v3 I
    else
      ¬ (v3 < 0 ∨ 6 ≤ Int32.toNatClampNeg v3) ∧
      lw_150_2 n v2 (v3 + 1) (am_u I 56 (Int32.toNatClampNeg v3) 0) E0
set_option maxRecDepth 100000 in
theorem sl_150_2 {S : am_S} {d : Nat} {Q : am_Q} {N : Nat} {T : Nat → Nat × Nat} {L : am_J} {r : Nat → Nat → Option Nat} {E0 : Int32 → am_I → Prop} : ∀ (n : Nat) {v2 : Int32} {v3 : Int32} {I : am_I}, lw_150_2 n v2 v3 I E0 → (∀ (o3 : Int32) (I1 : am_I), E0 o3 I1 → am_E S 150 (d + 3) 0 0 21 [.ref 55, .ref 1, .int v2, .int o3, am_jk] [] (N, am_ts T, I1, L, am_rs r) Q) → am_E S 150 (d + 3) 0 0 2 [.ref 55, .ref 1, .int v2, .int v3, am_jk] [] (N, am_ts T, I, L, am_rs r) Q
  | 0, _, _, _, hw, _ => hw.elim
  | n + 1, v2, v3, I, hw, hE0 => by
    have ih := @sl_150_2 S d Q N T L r E0 n
    unfold lw_150_2 at hw
    try dsimp only at hw
    refine am_E.run [2, 21] 2000 (show (if (6 : Int32) ≤ v3 then (am_E S 150 (d + 3) 0 0 21 [.ref 55, .ref 1, .int v2, .int v3, am_jk] [] (N, am_ts T, I, L, am_rs r) Q) else (if v3 < 0 ∨ 6 ≤ Int32.toNatClampNeg v3 then False else (am_E S 150 (d + 3) 0 0 2 [.ref 55, .ref 1, .int v2, .int (v3 + 1), am_jk] [] (N, am_ts T, (am_u I 56 (Int32.toNatClampNeg v3) 0), L, am_rs r) Q))) from ?_)
    by_cases hc : (6 : Int32) ≤ v3
    · rw [if_pos hc] at hw ⊢
      exact hE0 _ _ hw
    · rw [if_neg hc] at hw ⊢
      refine am_ifn hw.1 ?_
      replace hw := hw.2
      exact ih hw hE0
def lw_150_45 : Nat → Int32 → Int32 → Int32 → am_I → (Int32 → am_I → Prop) → (am_I → Prop) → Prop
  | 0, _, _, _, _, _, _ => False
  | n + 1, v2, v3, v4, I, E0, R =>
    if (I 1 10) ≤ v4 then
      E0 v4 I
    else
      ¬ ((v2 - 2) < 0 ∨ 6 ≤ Int32.toNatClampNeg (v2 - 2)) ∧
      ¬ ((v2 - 1) < 0 ∨ 6 ≤ Int32.toNatClampNeg (v2 - 1)) ∧
      w_151 v2 (am_u (am_u I 56 (Int32.toNatClampNeg (v2 - 2)) v3) 56 (Int32.toNatClampNeg (v2 - 1)) v4) (fun q3 =>
        if q3 = 0 then
          lw_150_45 n v2 v3 (v4 + 1) (am_u (am_u I 56 (Int32.toNatClampNeg (v2 - 2)) v3) 56 (Int32.toNatClampNeg (v2 - 1)) v4) E0 R
        else
          R (am_u (am_u I 56 (Int32.toNatClampNeg (v2 - 2)) v3) 56 (Int32.toNatClampNeg (v2 - 1)) v4))
set_option maxRecDepth 100000 in
theorem sl_150_45 {S : am_S} {d : Nat} {Q : am_Q} {N : Nat} {T : Nat → Nat × Nat} {L : am_J} {r : Nat → Nat → Option Nat} {E0 : Int32 → am_I → Prop} {R : am_I → Prop} : ∀ (n : Nat) {v2 : Int32} {v3 : Int32} {v4 : Int32} {I : am_I}, lw_150_45 n v2 v3 v4 I E0 R → (∀ (o4 : Int32) (I1 : am_I), E0 o4 I1 → am_E S 150 (d + 3) 0 0 89 [.ref 55, .ref 1, .int v2, .int v3, .int o4] [] (N, am_ts T, I1, L, am_rs r) Q) → (∀ (I1 : am_I), R I1 → Q (none) (N, am_ts T, I1, L, am_rs r)) → am_E S 150 (d + 3) 0 0 45 [.ref 55, .ref 1, .int v2, .int v3, .int v4] [] (N, am_ts T, I, L, am_rs r) Q
  | 0, _, _, _, _, hw, _, _ => hw.elim
  | n + 1, v2, v3, v4, I, hw, hE0, hR => by
    have ih := @sl_150_45 S d Q N T L r E0 R n
    unfold lw_150_45 at hw
    try dsimp only at hw
    refine am_E.run [76, 89] 2000 (show (if (I 1 10) ≤ v4 then (am_E S 150 (d + 3) 0 0 89 [.ref 55, .ref 1, .int v2, .int v3, .int v4] [] (N, am_ts T, I, L, am_rs r) Q) else (if (v2 - 2) < 0 ∨ 6 ≤ Int32.toNatClampNeg (v2 - 2) then False else (if (v2 - 1) < 0 ∨ 6 ≤ Int32.toNatClampNeg (v2 - 1) then False else (am_E S 150 (d + 3) 0 0 76 [.ref 55, .ref 1, .int v2, .int v3, .int v4] [.int v2, .ref 1, .ref 55] (N, am_ts T, (am_u (am_u I 56 (Int32.toNatClampNeg (v2 - 2)) v3) 56 (Int32.toNatClampNeg (v2 - 1)) v4), L, am_rs r) Q)))) from ?_)
    by_cases hc : (I 1 10) ≤ v4
    · rw [if_pos hc] at hw ⊢
      exact hE0 _ _ hw
    · rw [if_neg hc] at hw ⊢
      refine am_ifn hw.1 ?_
      replace hw := hw.2
      refine am_ifn hw.1 ?_
      replace hw := hw.2
      refine am_E.go ⟨am_ki_ N T (am_u (am_u I 56 (Int32.toNatClampNeg (v2 - 2)) v3) 56 (Int32.toNatClampNeg (v2 - 1)) v4) L r _, s_151 hw (fun q3 hk => ⟨q3, rfl, rfl, hk⟩), ?_⟩
      intro v h9 hv
      obtain ⟨q3, rfl, rfl, hw⟩ := hv
      try dsimp only at hw
      refine am_E.run [45] 2000 (show (if q3 = 0 then (am_E S 150 (d + 3) 0 0 45 [.ref 55, .ref 1, .int v2, .int v3, .int (v4 + 1)] [] (N, am_ts T, (am_u (am_u I 56 (Int32.toNatClampNeg (v2 - 2)) v3) 56 (Int32.toNatClampNeg (v2 - 1)) v4), L, am_rs r) Q) else (True ∧ Q (none) (N, am_ts T, (am_u (am_u I 56 (Int32.toNatClampNeg (v2 - 2)) v3) 56 (Int32.toNatClampNeg (v2 - 1)) v4), L, am_rs r))) from ?_)
      by_cases hc : q3 = 0
      · rw [if_pos hc] at hw ⊢
        exact ih hw hE0 hR
      · rw [if_neg hc] at hw ⊢
        exact ⟨trivial, hR _ hw⟩
def lw_150_34 : Nat → Int32 → Int32 → am_I → (Int32 → am_I → Prop) → (am_I → Prop) → Prop
  | 0, _, _, _, _, _ => False
  | n + 1, v2, v3, I, E0, R =>
    if (I 1 10) ≤ v3 then
      E0 v3 I
    else
      ∃ n45, lw_150_45 n45 v2 v3 0 I (fun o4 I5 =>
        lw_150_34 n v2 (v3 + 1) I5 E0 R) R
set_option maxRecDepth 100000 in
theorem sl_150_34 {S : am_S} {d : Nat} {Q : am_Q} {N : Nat} {T : Nat → Nat × Nat} {L : am_J} {r : Nat → Nat → Option Nat} {E0 : Int32 → am_I → Prop} {R : am_I → Prop} : ∀ (n : Nat) {v2 : Int32} {v3 : Int32} {I : am_I}, lw_150_34 n v2 v3 I E0 R → (∀ (o3 : Int32) (I1 : am_I), E0 o3 I1 → am_E S 150 (d + 3) 0 0 95 [.ref 55, .ref 1, .int v2, .int o3, am_jk] [] (N, am_ts T, I1, L, am_rs r) Q) → (∀ (I1 : am_I), R I1 → Q (none) (N, am_ts T, I1, L, am_rs r)) → am_E S 150 (d + 3) 0 0 34 [.ref 55, .ref 1, .int v2, .int v3, am_jk] [] (N, am_ts T, I, L, am_rs r) Q
  | 0, _, _, _, hw, _, _ => hw.elim
  | n + 1, v2, v3, I, hw, hE0, hR => by
    have ih := @sl_150_34 S d Q N T L r E0 R n
    unfold lw_150_34 at hw
    try dsimp only at hw
    refine am_E.run [45, 95] 2000 (show (if (I 1 10) ≤ v3 then (am_E S 150 (d + 3) 0 0 95 [.ref 55, .ref 1, .int v2, .int v3, am_jk] [] (N, am_ts T, I, L, am_rs r) Q) else (am_E S 150 (d + 3) 0 0 45 [.ref 55, .ref 1, .int v2, .int v3, .int 0] [] (N, am_ts T, I, L, am_rs r) Q)) from ?_)
    by_cases hc : (I 1 10) ≤ v3
    · rw [if_pos hc] at hw ⊢
      exact hE0 _ _ hw
    · rw [if_neg hc] at hw ⊢
      obtain ⟨n45, hw⟩ := hw
      refine sl_150_45 n45 hw (fun o4 I5 hw => ?_) hR
      · try dsimp only at hw
        refine am_E.run [34] 2000 (show (am_E S 150 (d + 3) 0 0 34 [.ref 55, .ref 1, .int v2, .int (v3 + 1), .int o4] [] (N, am_ts T, I5, L, am_rs r) Q) from ?_)
        exact am_E.junk (ih hw hE0 hR) (am_le.cons (am_le.cons (am_le.cons (am_le.cons (am_le.jk am_le.nil)))))
/-- KeyKeepers$Doors.partFirst(LKeyKeepers$Prison;I)V -/
def w_150 (x1 : Int32) (I : am_I) (K : am_I → Prop) : Prop :=
  ∃ n2, lw_150_2 n2 x1 0 I (fun o1 I2 =>
    if (f_13 x1 2 6) = 0 then
      K I2
    else
      ∃ n34, lw_150_34 n34 x1 0 I2 (fun o6 I7 =>
        K I7) K)
set_option maxRecDepth 100000 in
theorem s_150 {S : am_S} {d : Nat} {N : Nat} {T : Nat → Nat × Nat} {I : am_I} {L : am_J} {r : Nat → Nat → Option Nat} {Q : am_Q} {x1 : Int32} {K : am_I → Prop} (hw : w_150 x1 I K) (hK : ∀ (I1 : am_I), K I1 → Q (none) (N, am_ts T, I1, L, am_rs r)) : am_E S 150 (d + 3) 0 0 0 [.ref 55, .ref 1, .int x1, am_jk, am_jk] [] (N, am_ts T, I, L, am_rs r) Q := by
  unfold w_150 at hw
  try dsimp only at hw
  refine am_E.run [2] 2000 (show (am_E S 150 (d + 3) 0 0 2 [.ref 55, .ref 1, .int x1, .int 0, am_jk] [] (N, am_ts T, I, L, am_rs r) Q) from ?_)
  obtain ⟨n2, hw⟩ := hw
  refine sl_150_2 n2 hw (fun o1 I2 hw => ?_)
  · try dsimp only at hw
    refine am_E.run [25] 2000 (show (am_E S 150 (d + 3) 0 0 25 [.ref 55, .ref 1, .int x1, .int o1, am_jk] [.int 6, .int 2, .int x1] (N, am_ts T, I2, L, am_rs r) Q) from ?_)
    refine am_E.go ⟨fun v h9 => v = some (.int (f_13 x1 2 6)) ∧ h9 = (N, am_ts T, I2, L, am_rs r), s_13 ⟨rfl, rfl⟩, ?_⟩
    intro v h9 hv
    obtain ⟨rfl, rfl⟩ := hv
    refine am_E.run [34] 2000 (show (if (f_13 x1 2 6) = 0 then (True ∧ Q (none) (N, am_ts T, I2, L, am_rs r)) else (am_E S 150 (d + 3) 0 0 34 [.ref 55, .ref 1, .int x1, .int 0, am_jk] [] (N, am_ts T, I2, L, am_rs r) Q)) from ?_)
    by_cases hc : (f_13 x1 2 6) = 0
    · rw [if_pos hc] at hw ⊢
      exact ⟨trivial, hK _ hw⟩
    · rw [if_neg hc] at hw ⊢
      obtain ⟨n34, hw⟩ := hw
      refine sl_150_34 n34 hw (fun o6 I7 hw => ?_) hK
      · try dsimp only at hw
        refine am_E.run [] 2000 (show (True ∧ Q (none) (N, am_ts T, I7, L, am_rs r)) from ?_)
        exact ⟨trivial, hK _ hw⟩
/-- KeyKeepers.tally(II)I -/
def w_152 (x0 : Int32) (x1 : Int32) (I : am_I) (K : Int32 → am_I → Prop) : Prop :=
  if (f_13 x0 0 (f_153 I)) = 0 then
    w_14 (-1) I (fun q1 I2 =>
      K q1 I2)
  else
    if (f_13 x1 0 (f_111 x0)) = 0 then
      w_14 (-1) I (fun q9 I10 =>
        K q9 I10)
    else
      if (I 1 13) < 8 then
        w_154 x0 x1 I (fun q3 I4 =>
          w_16 q3 I4 (fun q5 I6 =>
            K q5 I6))
      else
        w_14 (-5) I (fun q7 I8 =>
          K q7 I8)
set_option maxRecDepth 100000 in
theorem s_152 {S : am_S} {d : Nat} {N : Nat} {T : Nat → Nat × Nat} {I : am_I} {L : am_J} {r : Nat → Nat → Option Nat} {Q : am_Q} {x0 : Int32} {x1 : Int32} {K : Int32 → am_I → Prop} (hw : w_152 x0 x1 I K) (hK : ∀ (q : Int32) (I1 : am_I), K q I1 → Q (some (.int q)) (N, am_ts T, I1, L, am_rs r)) : am_E S 152 (d + 1) 0 0 0 [.ref 0, .int x0, .int x1] [] (N, am_ts T, I, L, am_rs r) Q := by
  unfold w_152 at hw
  try dsimp only at hw
  refine am_E.run [6] 2000 (show (am_E S 152 (d + 1) 0 0 6 [.ref 0, .int x0, .int x1] [.ref 1, .int 0, .int x0] (N, am_ts T, I, L, am_rs r) Q) from ?_)
  refine am_E.go ⟨fun v h9 => v = some (.int (f_153 I)) ∧ h9 = (N, am_ts T, I, L, am_rs r), s_153 ⟨rfl, rfl⟩, ?_⟩
  intro v h9 hv
  obtain ⟨rfl, rfl⟩ := hv
  show (am_E S 152 (d + 1) 0 0 9 [.ref 0, .int x0, .int x1] [.int (f_153 I), .int 0, .int x0] (N, am_ts T, I, L, am_rs r) Q)
  refine am_E.go ⟨fun v h9 => v = some (.int (f_13 x0 0 (f_153 I))) ∧ h9 = (N, am_ts T, I, L, am_rs r), s_13 ⟨rfl, rfl⟩, ?_⟩
  intro v h9 hv
  obtain ⟨rfl, rfl⟩ := hv
  refine am_E.run [18, 29] 2000 (show (if (f_13 x0 0 (f_153 I)) = 0 then (am_E S 152 (d + 1) 0 0 29 [.ref 0, .int x0, .int x1] [.int (-1), .ref 0] (N, am_ts T, I, L, am_rs r) Q) else (am_E S 152 (d + 1) 0 0 18 [.ref 0, .int x0, .int x1] [.int x0, .int 0, .int x1] (N, am_ts T, I, L, am_rs r) Q)) from ?_)
  by_cases hc : (f_13 x0 0 (f_153 I)) = 0
  · rw [if_pos hc] at hw ⊢
    refine am_E.go ⟨am_ki_I N T L r _, s_14 hw (fun q1 I2 hk => ⟨q1, I2, rfl, rfl, hk⟩), ?_⟩
    intro v h9 hv
    obtain ⟨q1, I2, rfl, rfl, hw⟩ := hv
    try dsimp only at hw
    refine am_E.run [] 2000 (show (True ∧ Q (some (.int q1)) (N, am_ts T, I2, L, am_rs r)) from ?_)
    exact ⟨trivial, hK _ _ hw⟩
  · rw [if_neg hc] at hw ⊢
    refine am_E.go ⟨fun v h9 => v = some (.int (f_111 x0)) ∧ h9 = (N, am_ts T, I, L, am_rs r), s_111 ⟨rfl, rfl⟩, ?_⟩
    intro v h9 hv
    obtain ⟨rfl, rfl⟩ := hv
    show (am_E S 152 (d + 1) 0 0 21 [.ref 0, .int x0, .int x1] [.int (f_111 x0), .int 0, .int x1] (N, am_ts T, I, L, am_rs r) Q)
    refine am_E.go ⟨fun v h9 => v = some (.int (f_13 x1 0 (f_111 x0))) ∧ h9 = (N, am_ts T, I, L, am_rs r), s_13 ⟨rfl, rfl⟩, ?_⟩
    intro v h9 hv
    obtain ⟨rfl, rfl⟩ := hv
    refine am_E.run [29, 48, 59] 2000 (show (if (f_13 x1 0 (f_111 x0)) = 0 then (am_E S 152 (d + 1) 0 0 29 [.ref 0, .int x0, .int x1] [.int (-1), .ref 0] (N, am_ts T, I, L, am_rs r) Q) else (if (I 1 13) < 8 then (am_E S 152 (d + 1) 0 0 59 [.ref 0, .int x0, .int x1] [.int x1, .int x0, .ref 1, .ref 0] (N, am_ts T, I, L, am_rs r) Q) else (am_E S 152 (d + 1) 0 0 48 [.ref 0, .int x0, .int x1] [.int (-5), .ref 0] (N, am_ts T, I, L, am_rs r) Q))) from ?_)
    by_cases hc : (f_13 x1 0 (f_111 x0)) = 0
    · rw [if_pos hc] at hw ⊢
      refine am_E.go ⟨am_ki_I N T L r _, s_14 hw (fun q9 I10 hk => ⟨q9, I10, rfl, rfl, hk⟩), ?_⟩
      intro v h9 hv
      obtain ⟨q9, I10, rfl, rfl, hw⟩ := hv
      try dsimp only at hw
      refine am_E.run [] 2000 (show (True ∧ Q (some (.int q9)) (N, am_ts T, I10, L, am_rs r)) from ?_)
      exact ⟨trivial, hK _ _ hw⟩
    · rw [if_neg hc] at hw ⊢
      by_cases hc : (I 1 13) < 8
      · rw [if_pos hc] at hw ⊢
        refine am_E.go ⟨am_ki_I N T L r _, s_154 hw (fun q3 I4 hk => ⟨q3, I4, rfl, rfl, hk⟩), ?_⟩
        intro v h9 hv
        obtain ⟨q3, I4, rfl, rfl, hw⟩ := hv
        try dsimp only at hw
        show (am_E S 152 (d + 1) 0 0 62 [.ref 0, .int x0, .int x1] [.int q3, .ref 0] (N, am_ts T, I4, L, am_rs r) Q)
        refine am_E.go ⟨am_ki_I N T L r _, s_16 hw (fun q5 I6 hk => ⟨q5, I6, rfl, rfl, hk⟩), ?_⟩
        intro v h9 hv
        obtain ⟨q5, I6, rfl, rfl, hw⟩ := hv
        try dsimp only at hw
        refine am_E.run [] 2000 (show (True ∧ Q (some (.int q5)) (N, am_ts T, I6, L, am_rs r)) from ?_)
        exact ⟨trivial, hK _ _ hw⟩
      · rw [if_neg hc] at hw ⊢
        refine am_E.go ⟨am_ki_I N T L r _, s_14 hw (fun q7 I8 hk => ⟨q7, I8, rfl, rfl, hk⟩), ?_⟩
        intro v h9 hv
        obtain ⟨q7, I8, rfl, rfl, hw⟩ := hv
        try dsimp only at hw
        refine am_E.run [] 2000 (show (True ∧ Q (some (.int q7)) (N, am_ts T, I8, L, am_rs r)) from ?_)
        exact ⟨trivial, hK _ _ hw⟩
def lw_157_7 : Nat → Int32 → am_I → (Int32 → am_I → Prop) → Prop
  | 0, _, _, _ => False
  | n + 1, v2, I, E0 =>
    if (f_153 I) < v2 then
      E0 v2 I
    else
      if (Int32.ofNat 256) ≤ v2 then
        E0 v2 I
      else
        w_158 v2 I (fun q1 =>
          if q1 = 0 then
            lw_157_7 n (v2 + 1) I E0
          else
            ¬ ((I 59 1) < 0 ∨ 256 ≤ Int32.toNatClampNeg (I 59 1)) ∧
            lw_157_7 n (v2 + 1) (am_u (am_u I 60 (Int32.toNatClampNeg (I 59 1)) v2) 59 1 ((I 59 1) + 1)) E0)
set_option maxRecDepth 100000 in
theorem sl_157_7 {S : am_S} {d : Nat} {Q : am_Q} {N : Nat} {T : Nat → Nat × Nat} {L : am_J} {r : Nat → Nat → Option Nat} {E0 : Int32 → am_I → Prop} : ∀ (n : Nat) {v2 : Int32} {I : am_I}, lw_157_7 n v2 I E0 → (∀ (o2 : Int32) (I1 : am_I), E0 o2 I1 → am_E S 157 (d + 2) 0 0 58 [.ref 59, .ref 1, .int o2] [] (N, am_ts T, I1, L, am_rs r) Q) → am_E S 157 (d + 2) 0 0 7 [.ref 59, .ref 1, .int v2] [] (N, am_ts T, I, L, am_rs r) Q
  | 0, _, _, hw, _ => hw.elim
  | n + 1, v2, I, hw, hE0 => by
    have ih := @sl_157_7 S d Q N T L r E0 n
    unfold lw_157_7 at hw
    try dsimp only at hw
    refine am_E.run [9] 2000 (show (am_E S 157 (d + 2) 0 0 9 [.ref 59, .ref 1, .int v2] [.ref 1, .int v2] (N, am_ts T, I, L, am_rs r) Q) from ?_)
    refine am_E.go ⟨fun v h9 => v = some (.int (f_153 I)) ∧ h9 = (N, am_ts T, I, L, am_rs r), s_153 ⟨rfl, rfl⟩, ?_⟩
    intro v h9 hv
    obtain ⟨rfl, rfl⟩ := hv
    refine am_E.run [26, 58] 2000 (show (if (f_153 I) < v2 then (am_E S 157 (d + 2) 0 0 58 [.ref 59, .ref 1, .int v2] [] (N, am_ts T, I, L, am_rs r) Q) else (if (Int32.ofNat 256) ≤ v2 then (am_E S 157 (d + 2) 0 0 58 [.ref 59, .ref 1, .int v2] [] (N, am_ts T, I, L, am_rs r) Q) else (am_E S 157 (d + 2) 0 0 26 [.ref 59, .ref 1, .int v2] [.int v2, .ref 1] (N, am_ts T, I, L, am_rs r) Q))) from ?_)
    by_cases hc : (f_153 I) < v2
    · rw [if_pos hc] at hw ⊢
      exact hE0 _ _ hw
    · rw [if_neg hc] at hw ⊢
      by_cases hc : (Int32.ofNat 256) ≤ v2
      · rw [if_pos hc] at hw ⊢
        exact hE0 _ _ hw
      · rw [if_neg hc] at hw ⊢
        refine am_E.go ⟨am_ki_ N T I L r _, s_158 hw (fun q1 hk => ⟨q1, rfl, rfl, hk⟩), ?_⟩
        intro v h9 hv
        obtain ⟨q1, rfl, rfl, hw⟩ := hv
        try dsimp only at hw
        refine am_E.run [7] 2000 (show (if q1 = 0 then (am_E S 157 (d + 2) 0 0 7 [.ref 59, .ref 1, .int (v2 + 1)] [] (N, am_ts T, I, L, am_rs r) Q) else (if (I 59 1) < 0 ∨ 256 ≤ Int32.toNatClampNeg (I 59 1) then False else (am_E S 157 (d + 2) 0 0 7 [.ref 59, .ref 1, .int (v2 + 1)] [] (N, am_ts T, (am_u (am_u I 60 (Int32.toNatClampNeg (I 59 1)) v2) 59 1 ((I 59 1) + 1)), L, am_rs r) Q))) from ?_)
        by_cases hc : q1 = 0
        · rw [if_pos hc] at hw ⊢
          exact ih hw hE0
        · rw [if_neg hc] at hw ⊢
          refine am_ifn hw.1 ?_
          replace hw := hw.2
          exact ih hw hE0
/-- KeyKeepers$Counting.gather(LKeyKeepers$Prison;)V -/
def w_157 (I : am_I) (K : am_I → Prop) : Prop :=
  ∃ n7, lw_157_7 n7 0 (am_u I 59 1 0) (fun o2 I3 =>
    K I3)
set_option maxRecDepth 100000 in
theorem s_157 {S : am_S} {d : Nat} {N : Nat} {T : Nat → Nat × Nat} {I : am_I} {L : am_J} {r : Nat → Nat → Option Nat} {Q : am_Q} {K : am_I → Prop} (hw : w_157 I K) (hK : ∀ (I1 : am_I), K I1 → Q (none) (N, am_ts T, I1, L, am_rs r)) : am_E S 157 (d + 2) 0 0 0 [.ref 59, .ref 1, am_jk] [] (N, am_ts T, I, L, am_rs r) Q := by
  unfold w_157 at hw
  try dsimp only at hw
  refine am_E.run [7] 2000 (show (am_E S 157 (d + 2) 0 0 7 [.ref 59, .ref 1, .int 0] [] (N, am_ts T, (am_u I 59 1 0), L, am_rs r) Q) from ?_)
  obtain ⟨n7, hw⟩ := hw
  refine sl_157_7 n7 hw (fun o2 I3 hw => ?_)
  · try dsimp only at hw
    refine am_E.run [] 2000 (show (True ∧ Q (none) (N, am_ts T, I3, L, am_rs r)) from ?_)
    exact ⟨trivial, hK _ hw⟩
