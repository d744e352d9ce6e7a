/-- KeyKeepers$Goings.copyFrom(LKeyKeepers$Goings;)V -/
def w_81 (a : Nat) (x0 : Nat) (T : Nat → Nat × Nat) (r : Nat → Nat → Option Nat) (I : am_I) (K : am_I → Prop) : Prop :=
  ((am_ts T x0).1 = 3) ∧
  ((am_ts T a).1 = 3) ∧
  (am_ts T x0).1 = 3 ∧ ∃ c1, (am_rs r x0 1) = some c1 ∧
  (am_ts T a).1 = 3 ∧ ∃ c2, (am_rs r a 1) = some c2 ∧
  ((am_ts T c1).1 = 20 ∧ (am_ts T c2).1 = 20 ∧ ¬ (0 : Int32) < 0 ∧ ¬ (0 : Int32) < 0 ∧ ¬ (16 : Int32) < 0 ∧ (Int32.toNatClampNeg (0 : Int32)) + (Int32.toNatClampNeg (16 : Int32)) ≤ (am_ts T c1).2 ∧ (Int32.toNatClampNeg (0 : Int32)) + (Int32.toNatClampNeg (16 : Int32)) ≤ (am_ts T c2).2) ∧
  ∃ I3, I3 = (am_ci (am_u I a 0 (I x0 0)) c1 c2 (Int32.toNatClampNeg (0 : Int32)) (Int32.toNatClampNeg (0 : Int32)) (Int32.toNatClampNeg (16 : Int32))) ∧
  (am_ts T x0).1 = 3 ∧ ∃ c4, (am_rs r x0 2) = some c4 ∧
  (am_ts T a).1 = 3 ∧ ∃ c5, (am_rs r a 2) = some c5 ∧
  ((am_ts T c4).1 = 20 ∧ (am_ts T c5).1 = 20 ∧ ¬ (0 : Int32) < 0 ∧ ¬ (0 : Int32) < 0 ∧ ¬ (16 : Int32) < 0 ∧ (Int32.toNatClampNeg (0 : Int32)) + (Int32.toNatClampNeg (16 : Int32)) ≤ (am_ts T c4).2 ∧ (Int32.toNatClampNeg (0 : Int32)) + (Int32.toNatClampNeg (16 : Int32)) ≤ (am_ts T c5).2) ∧
  ∃ I6, I6 = (am_ci I3 c4 c5 (Int32.toNatClampNeg (0 : Int32)) (Int32.toNatClampNeg (0 : Int32)) (Int32.toNatClampNeg (16 : Int32))) ∧
  (am_ts T x0).1 = 3 ∧ ∃ c7, (am_rs r x0 3) = some c7 ∧
  (am_ts T a).1 = 3 ∧ ∃ c8, (am_rs r a 3) = some c8 ∧
  ((am_ts T c7).1 = 20 ∧ (am_ts T c8).1 = 20 ∧ ¬ (0 : Int32) < 0 ∧ ¬ (0 : Int32) < 0 ∧ ¬ (16 : Int32) < 0 ∧ (Int32.toNatClampNeg (0 : Int32)) + (Int32.toNatClampNeg (16 : Int32)) ≤ (am_ts T c7).2 ∧ (Int32.toNatClampNeg (0 : Int32)) + (Int32.toNatClampNeg (16 : Int32)) ≤ (am_ts T c8).2) ∧
  ∃ I9, I9 = (am_ci I6 c7 c8 (Int32.toNatClampNeg (0 : Int32)) (Int32.toNatClampNeg (0 : Int32)) (Int32.toNatClampNeg (16 : Int32))) ∧
  (am_ts T x0).1 = 3 ∧ ∃ c10, (am_rs r x0 4) = some c10 ∧
  (am_ts T a).1 = 3 ∧ ∃ c11, (am_rs r a 4) = some c11 ∧
  ((am_ts T c10).1 = 20 ∧ (am_ts T c11).1 = 20 ∧ ¬ (0 : Int32) < 0 ∧ ¬ (0 : Int32) < 0 ∧ ¬ (16 : Int32) < 0 ∧ (Int32.toNatClampNeg (0 : Int32)) + (Int32.toNatClampNeg (16 : Int32)) ≤ (am_ts T c10).2 ∧ (Int32.toNatClampNeg (0 : Int32)) + (Int32.toNatClampNeg (16 : Int32)) ≤ (am_ts T c11).2) ∧
  ∃ I12, I12 = (am_ci I9 c10 c11 (Int32.toNatClampNeg (0 : Int32)) (Int32.toNatClampNeg (0 : Int32)) (Int32.toNatClampNeg (16 : Int32))) ∧
  (am_ts T x0).1 = 3 ∧ ∃ c13, (am_rs r x0 5) = some c13 ∧
  (am_ts T a).1 = 3 ∧ ∃ c14, (am_rs r a 5) = some c14 ∧
  ((am_ts T c13).1 = 20 ∧ (am_ts T c14).1 = 20 ∧ ¬ (0 : Int32) < 0 ∧ ¬ (0 : Int32) < 0 ∧ ¬ (16 : Int32) < 0 ∧ (Int32.toNatClampNeg (0 : Int32)) + (Int32.toNatClampNeg (16 : Int32)) ≤ (am_ts T c13).2 ∧ (Int32.toNatClampNeg (0 : Int32)) + (Int32.toNatClampNeg (16 : Int32)) ≤ (am_ts T c14).2) ∧
  ∃ I15, I15 = (am_ci I12 c13 c14 (Int32.toNatClampNeg (0 : Int32)) (Int32.toNatClampNeg (0 : Int32)) (Int32.toNatClampNeg (16 : Int32))) ∧
  K I15
set_option maxRecDepth 100000 in
theorem s_81 {S : am_S} {d : Nat} {N : Nat} {T : Nat → Nat × Nat} {I : am_I} {L : am_J} {r : Nat → Nat → Option Nat} {Q : am_Q} {a : Nat} {x0 : Nat} {K : am_I → Prop} (hw : w_81 a x0 T r I K) (hK : ∀ (I1 : am_I), K I1 → Q (none) (N, am_ts T, I1, L, am_rs r)) : am_E S 81 (d + 1) 0 0 0 [.ref a, .ref x0] [] (N, am_ts T, I, L, am_rs r) Q := by
  unfold w_81 at hw
  try dsimp only at hw
  refine am_E.run [12] 2000 (show (if (am_ts T x0).1 = 3 ∧ 0 < 4 then (if (am_ts T a).1 = 3 then (if (am_ts T x0).1 = 3 ∧ 2 < 4 then (am_E S 81 (d + 1) 0 0 12 [.ref a, .ref x0] [am_rv (am_rs r x0 1)] (N, am_ts T, (am_u I a 0 (I x0 0)), L, am_rs r) Q) else False) else False) else False) from ?_)
  refine am_ifp ⟨hw.1, by decide⟩ ?_
  replace hw := hw.2
  refine am_ifp hw.1 ?_
  replace hw := hw.2
  refine am_ifp ⟨hw.1, by decide⟩ ?_
  replace hw := hw.2
  obtain ⟨c1, hx, hw⟩ := hw
  rw [hx]
  refine am_E.run [17] 2000 (show (if (am_ts T a).1 = 3 ∧ 2 < 4 then (am_E S 81 (d + 1) 0 0 17 [.ref a, .ref x0] [am_rv (am_rs r a 1), .int 0, .ref c1] (N, am_ts T, (am_u I a 0 (I x0 0)), L, am_rs r) Q) else False) from ?_)
  refine am_ifp ⟨hw.1, by decide⟩ ?_
  replace hw := hw.2
  obtain ⟨c2, hx, hw⟩ := hw
  rw [hx]
  refine am_E.run [23] 2000 (show (if (am_ts T c1).1 = 20 ∧ (am_ts T c2).1 = 20 ∧ ¬ (0 : Int32) < 0 ∧ ¬ (0 : Int32) < 0 ∧ ¬ (16 : Int32) < 0 ∧ (Int32.toNatClampNeg (0 : Int32)) + (Int32.toNatClampNeg (16 : Int32)) ≤ (am_ts T c1).2 ∧ (Int32.toNatClampNeg (0 : Int32)) + (Int32.toNatClampNeg (16 : Int32)) ≤ (am_ts T c2).2 ∧ 0 ≤ 8 then (am_E S 81 (d + 1) 0 0 23 [.ref a, .ref x0] [] (N, am_ts T, (am_ci (am_u I a 0 (I x0 0)) c1 c2 (Int32.toNatClampNeg (0 : Int32)) (Int32.toNatClampNeg (0 : Int32)) (Int32.toNatClampNeg (16 : Int32))), L, am_rs r) Q) else False) from ?_)
  refine am_ifp ⟨hw.1.1, hw.1.2.1, hw.1.2.2.1, hw.1.2.2.2.1, hw.1.2.2.2.2.1, hw.1.2.2.2.2.2.1, hw.1.2.2.2.2.2.2, by decide⟩ ?_
  replace hw := hw.2
  obtain ⟨I3, hI, hw⟩ := hw
  rw [← hI]
  refine am_E.run [27] 2000 (show (if (am_ts T x0).1 = 3 ∧ 2 < 4 then (am_E S 81 (d + 1) 0 0 27 [.ref a, .ref x0] [am_rv (am_rs r x0 2)] (N, am_ts T, I3, L, am_rs r) Q) else False) from ?_)
  refine am_ifp ⟨hw.1, by decide⟩ ?_
  replace hw := hw.2
  obtain ⟨c4, hx, hw⟩ := hw
  rw [hx]
  refine am_E.run [32] 2000 (show (if (am_ts T a).1 = 3 ∧ 2 < 4 then (am_E S 81 (d + 1) 0 0 32 [.ref a, .ref x0] [am_rv (am_rs r a 2), .int 0, .ref c4] (N, am_ts T, I3, L, am_rs r) Q) else False) from ?_)
  refine am_ifp ⟨hw.1, by decide⟩ ?_
  replace hw := hw.2
  obtain ⟨c5, hx, hw⟩ := hw
  rw [hx]
  refine am_E.run [38] 2000 (show (if (am_ts T c4).1 = 20 ∧ (am_ts T c5).1 = 20 ∧ ¬ (0 : Int32) < 0 ∧ ¬ (0 : Int32) < 0 ∧ ¬ (16 : Int32) < 0 ∧ (Int32.toNatClampNeg (0 : Int32)) + (Int32.toNatClampNeg (16 : Int32)) ≤ (am_ts T c4).2 ∧ (Int32.toNatClampNeg (0 : Int32)) + (Int32.toNatClampNeg (16 : Int32)) ≤ (am_ts T c5).2 ∧ 0 ≤ 8 then (am_E S 81 (d + 1) 0 0 38 [.ref a, .ref x0] [] (N, am_ts T, (am_ci I3 c4 c5 (Int32.toNatClampNeg (0 : Int32)) (Int32.toNatClampNeg (0 : Int32)) (Int32.toNatClampNeg (16 : Int32))), L, am_rs r) Q) else False) from ?_)
  refine am_ifp ⟨hw.1.1, hw.1.2.1, hw.1.2.2.1, hw.1.2.2.2.1, hw.1.2.2.2.2.1, hw.1.2.2.2.2.2.1, hw.1.2.2.2.2.2.2, by decide⟩ ?_
  replace hw := hw.2
  obtain ⟨I6, hI, hw⟩ := hw
  rw [← hI]
  refine am_E.run [42] 2000 (show (if (am_ts T x0).1 = 3 ∧ 2 < 4 then (am_E S 81 (d + 1) 0 0 42 [.ref a, .ref x0] [am_rv (am_rs r x0 3)] (N, am_ts T, I6, L, am_rs r) Q) else False) from ?_)
  refine am_ifp ⟨hw.1, by decide⟩ ?_
  replace hw := hw.2
  obtain ⟨c7, hx, hw⟩ := hw
  rw [hx]
  refine am_E.run [47] 2000 (show (if (am_ts T a).1 = 3 ∧ 2 < 4 then (am_E S 81 (d + 1) 0 0 47 [.ref a, .ref x0] [am_rv (am_rs r a 3), .int 0, .ref c7] (N, am_ts T, I6, L, am_rs r) Q) else False) from ?_)
  refine am_ifp ⟨hw.1, by decide⟩ ?_
  replace hw := hw.2
  obtain ⟨c8, hx, hw⟩ := hw
  rw [hx]
  refine am_E.run [53] 2000 (show (if (am_ts T c7).1 = 20 ∧ (am_ts T c8).1 = 20 ∧ ¬ (0 : Int32) < 0 ∧ ¬ (0 : Int32) < 0 ∧ ¬ (16 : Int32) < 0 ∧ (Int32.toNatClampNeg (0 : Int32)) + (Int32.toNatClampNeg (16 : Int32)) ≤ (am_ts T c7).2 ∧ (Int32.toNatClampNeg (0 : Int32)) + (Int32.toNatClampNeg (16 : Int32)) ≤ (am_ts T c8).2 ∧ 0 ≤ 8 then (am_E S 81 (d + 1) 0 0 53 [.ref a, .ref x0] [] (N, am_ts T, (am_ci I6 c7 c8 (Int32.toNatClampNeg (0 : Int32)) (Int32.toNatClampNeg (0 : Int32)) (Int32.toNatClampNeg (16 : Int32))), L, am_rs r) Q) else False) from ?_)
  refine am_ifp ⟨hw.1.1, hw.1.2.1, hw.1.2.2.1, hw.1.2.2.2.1, hw.1.2.2.2.2.1, hw.1.2.2.2.2.2.1, hw.1.2.2.2.2.2.2, by decide⟩ ?_
  replace hw := hw.2
  obtain ⟨I9, hI, hw⟩ := hw
  rw [← hI]
  refine am_E.run [57] 2000 (show (if (am_ts T x0).1 = 3 ∧ 2 < 4 then (am_E S 81 (d + 1) 0 0 57 [.ref a, .ref x0] [am_rv (am_rs r x0 4)] (N, am_ts T, I9, L, am_rs r) Q) else False) from ?_)
  refine am_ifp ⟨hw.1, by decide⟩ ?_
  replace hw := hw.2
  obtain ⟨c10, hx, hw⟩ := hw
  rw [hx]
  refine am_E.run [62] 2000 (show (if (am_ts T a).1 = 3 ∧ 2 < 4 then (am_E S 81 (d + 1) 0 0 62 [.ref a, .ref x0] [am_rv (am_rs r a 4), .int 0, .ref c10] (N, am_ts T, I9, L, am_rs r) Q) else False) from ?_)
  refine am_ifp ⟨hw.1, by decide⟩ ?_
  replace hw := hw.2
  obtain ⟨c11, hx, hw⟩ := hw
  rw [hx]
  refine am_E.run [68] 2000 (show (if (am_ts T c10).1 = 20 ∧ (am_ts T c11).1 = 20 ∧ ¬ (0 : Int32) < 0 ∧ ¬ (0 : Int32) < 0 ∧ ¬ (16 : Int32) < 0 ∧ (Int32.toNatClampNeg (0 : Int32)) + (Int32.toNatClampNeg (16 : Int32)) ≤ (am_ts T c10).2 ∧ (Int32.toNatClampNeg (0 : Int32)) + (Int32.toNatClampNeg (16 : Int32)) ≤ (am_ts T c11).2 ∧ 0 ≤ 8 then (am_E S 81 (d + 1) 0 0 68 [.ref a, .ref x0] [] (N, am_ts T, (am_ci I9 c10 c11 (Int32.toNatClampNeg (0 : Int32)) (Int32.toNatClampNeg (0 : Int32)) (Int32.toNatClampNeg (16 : Int32))), L, am_rs r) Q) else False) from ?_)
  refine am_ifp ⟨hw.1.1, hw.1.2.1, hw.1.2.2.1, hw.1.2.2.2.1, hw.1.2.2.2.2.1, hw.1.2.2.2.2.2.1, hw.1.2.2.2.2.2.2, by decide⟩ ?_
  replace hw := hw.2
  obtain ⟨I12, hI, hw⟩ := hw
  rw [← hI]
  refine am_E.run [72] 2000 (show (if (am_ts T x0).1 = 3 ∧ 2 < 4 then (am_E S 81 (d + 1) 0 0 72 [.ref a, .ref x0] [am_rv (am_rs r x0 5)] (N, am_ts T, I12, L, am_rs r) Q) else False) from ?_)
  refine am_ifp ⟨hw.1, by decide⟩ ?_
  replace hw := hw.2
  obtain ⟨c13, hx, hw⟩ := hw
  rw [hx]
  refine am_E.run [77] 2000 (show (if (am_ts T a).1 = 3 ∧ 2 < 4 then (am_E S 81 (d + 1) 0 0 77 [.ref a, .ref x0] [am_rv (am_rs r a 5), .int 0, .ref c13] (N, am_ts T, I12, L, am_rs r) Q) else False) from ?_)
  refine am_ifp ⟨hw.1, by decide⟩ ?_
  replace hw := hw.2
  obtain ⟨c14, hx, hw⟩ := hw
  rw [hx]
  refine am_E.run [83] 2000 (show (if (am_ts T c13).1 = 20 ∧ (am_ts T c14).1 = 20 ∧ ¬ (0 : Int32) < 0 ∧ ¬ (0 : Int32) < 0 ∧ ¬ (16 : Int32) < 0 ∧ (Int32.toNatClampNeg (0 : Int32)) + (Int32.toNatClampNeg (16 : Int32)) ≤ (am_ts T c13).2 ∧ (Int32.toNatClampNeg (0 : Int32)) + (Int32.toNatClampNeg (16 : Int32)) ≤ (am_ts T c14).2 ∧ 0 ≤ 8 then (am_E S 81 (d + 1) 0 0 83 [.ref a, .ref x0] [] (N, am_ts T, (am_ci I12 c13 c14 (Int32.toNatClampNeg (0 : Int32)) (Int32.toNatClampNeg (0 : Int32)) (Int32.toNatClampNeg (16 : Int32))), L, am_rs r) Q) else False) from ?_)
  refine am_ifp ⟨hw.1.1, hw.1.2.1, hw.1.2.2.1, hw.1.2.2.2.1, hw.1.2.2.2.2.1, hw.1.2.2.2.2.2.1, hw.1.2.2.2.2.2.2, by decide⟩ ?_
  replace hw := hw.2
  obtain ⟨I15, hI, hw⟩ := hw
  rw [← hI]
  refine am_E.run [] 2000 (show (True ∧ Q (none) (N, am_ts T, I15, L, am_rs r)) from ?_)
  exact ⟨trivial, hK _ hw⟩
/-- KeyKeepers$Text.kindOf(I)I -/
def w_83 (a : Nat) (x0 : Int32) (T : Nat → Nat × Nat) (r : Nat → Nat → Option Nat) (I : am_I) (K : Int32 → Prop) : Prop :=
  ((am_ts T a).1 = 11) ∧
  if (f_13 x0 0 ((I a 2) - 1)) = 0 then
    K (-1)
  else
    (am_ts T a).1 = 11 ∧ ∃ c1, (am_rs r a 3) = some c1 ∧
    ((am_ts T c1).1 = 20) ∧
    ¬ (x0 < 0 ∨ (am_ts T c1).2 ≤ Int32.toNatClampNeg x0) ∧
    K (I c1 (Int32.toNatClampNeg x0))
set_option maxRecDepth 100000 in
theorem s_83 {S : am_S} {d : Nat} {N : Nat} {T : Nat → Nat × Nat} {I : am_I} {L : am_J} {r : Nat → Nat → Option Nat} {Q : am_Q} {a : Nat} {x0 : Int32} {K : Int32 → Prop} (hw : w_83 a x0 T r I K) (hK : ∀ (q : Int32), K q → Q (some (.int q)) (N, am_ts T, I, L, am_rs r)) : am_E S 83 (d + 1) 0 0 0 [.ref a, .int x0] [] (N, am_ts T, I, L, am_rs r) Q := by
  unfold w_83 at hw
  try dsimp only at hw
  refine am_E.run [8] 2000 (show (if (am_ts T a).1 = 11 ∧ 0 < 4 then (am_E S 83 (d + 1) 0 0 8 [.ref a, .int x0] [.int ((I a 2) - 1), .int 0, .int x0] (N, am_ts T, I, L, am_rs r) Q) else False) from ?_)
  refine am_ifp ⟨hw.1, by decide⟩ ?_
  replace hw := hw.2
  refine am_E.go ⟨fun v h9 => v = some (.int (f_13 x0 0 ((I a 2) - 1))) ∧ h9 = (N, am_ts T, I, L, am_rs r), s_13 ⟨rfl, rfl⟩, ?_⟩
  intro v h9 hv
  obtain ⟨rfl, rfl⟩ := hv
  refine am_E.run [18] 2000 (show (if (f_13 x0 0 ((I a 2) - 1)) = 0 then (True ∧ Q (some (.int (-1))) (N, am_ts T, I, L, am_rs r)) else (if (am_ts T a).1 = 11 ∧ 2 < 4 then (am_E S 83 (d + 1) 0 0 18 [.ref a, .int x0] [am_rv (am_rs r a 3)] (N, am_ts T, I, L, am_rs r) Q) else False)) from ?_)
  by_cases hc : (f_13 x0 0 ((I a 2) - 1)) = 0
  · rw [if_pos hc] at hw ⊢
    exact ⟨trivial, hK _ hw⟩
  · rw [if_neg hc] at hw ⊢
    refine am_ifp ⟨hw.1, by decide⟩ ?_
    replace hw := hw.2
    obtain ⟨c1, hx, hw⟩ := hw
    rw [hx]
    refine am_E.run [] 2000 (show (if (am_ts T c1).1 = 20 then (if x0 < 0 ∨ (am_ts T c1).2 ≤ Int32.toNatClampNeg x0 then False else (True ∧ Q (some (.int (I c1 (Int32.toNatClampNeg x0)))) (N, am_ts T, I, L, am_rs r))) else False) from ?_)
    refine am_ifp hw.1 ?_
    replace hw := hw.2
    refine am_ifn hw.1 ?_
    replace hw := hw.2
    exact ⟨trivial, hK _ hw⟩
/-- KeyKeepers$Text.timesOf(I)I -/
def w_84 (a : Nat) (x0 : Int32) (T : Nat → Nat × Nat) (r : Nat → Nat → Option Nat) (I : am_I) (K : Int32 → Prop) : Prop :=
  ((am_ts T a).1 = 11) ∧
  if (f_13 x0 0 ((I a 2) - 1)) = 0 then
    K 0
  else
    (am_ts T a).1 = 11 ∧ ∃ c1, (am_rs r a 4) = some c1 ∧
    ((am_ts T c1).1 = 20) ∧
    ¬ (x0 < 0 ∨ (am_ts T c1).2 ≤ Int32.toNatClampNeg x0) ∧
    K (I c1 (Int32.toNatClampNeg x0))
set_option maxRecDepth 100000 in
theorem s_84 {S : am_S} {d : Nat} {N : Nat} {T : Nat → Nat × Nat} {I : am_I} {L : am_J} {r : Nat → Nat → Option Nat} {Q : am_Q} {a : Nat} {x0 : Int32} {K : Int32 → Prop} (hw : w_84 a x0 T r I K) (hK : ∀ (q : Int32), K q → Q (some (.int q)) (N, am_ts T, I, L, am_rs r)) : am_E S 84 (d + 1) 0 0 0 [.ref a, .int x0] [] (N, am_ts T, I, L, am_rs r) Q := by
  unfold w_84 at hw
  try dsimp only at hw
  refine am_E.run [8] 2000 (show (if (am_ts T a).1 = 11 ∧ 0 < 4 then (am_E S 84 (d + 1) 0 0 8 [.ref a, .int x0] [.int ((I a 2) - 1), .int 0, .int x0] (N, am_ts T, I, L, am_rs r) Q) else False) from ?_)
  refine am_ifp ⟨hw.1, by decide⟩ ?_
  replace hw := hw.2
  refine am_E.go ⟨fun v h9 => v = some (.int (f_13 x0 0 ((I a 2) - 1))) ∧ h9 = (N, am_ts T, I, L, am_rs r), s_13 ⟨rfl, rfl⟩, ?_⟩
  intro v h9 hv
  obtain ⟨rfl, rfl⟩ := hv
  refine am_E.run [18] 2000 (show (if (f_13 x0 0 ((I a 2) - 1)) = 0 then (True ∧ Q (some (.int 0)) (N, am_ts T, I, L, am_rs r)) else (if (am_ts T a).1 = 11 ∧ 2 < 4 then (am_E S 84 (d + 1) 0 0 18 [.ref a, .int x0] [am_rv (am_rs r a 4)] (N, am_ts T, I, L, am_rs r) Q) else False)) from ?_)
  by_cases hc : (f_13 x0 0 ((I a 2) - 1)) = 0
  · rw [if_pos hc] at hw ⊢
    exact ⟨trivial, hK _ hw⟩
  · rw [if_neg hc] at hw ⊢
    refine am_ifp ⟨hw.1, by decide⟩ ?_
    replace hw := hw.2
    obtain ⟨c1, hx, hw⟩ := hw
    rw [hx]
    refine am_E.run [] 2000 (show (if (am_ts T c1).1 = 20 then (if x0 < 0 ∨ (am_ts T c1).2 ≤ Int32.toNatClampNeg x0 then False else (True ∧ Q (some (.int (I c1 (Int32.toNatClampNeg x0)))) (N, am_ts T, I, L, am_rs r))) else False) from ?_)
    refine am_ifp hw.1 ?_
    replace hw := hw.2
    refine am_ifn hw.1 ?_
    replace hw := hw.2
    exact ⟨trivial, hK _ hw⟩
def lw_86_4 : Nat → Nat → Int32 → Int32 → (Nat → Nat × Nat) → (Nat → Nat → Option Nat) → am_I → (Int32 → Int32 → Prop) → Prop
  | 0, _, _, _, _, _, _, _ => False
  | n + 1, v1, v2, v3, T, r, I, E0 =>
    if (I 1 10) ≤ v3 then
      E0 v2 v3
    else
      ((am_ts T v1).1 = 20) ∧
      ¬ (v3 < 0 ∨ (am_ts T v1).2 ≤ Int32.toNatClampNeg v3) ∧
      if (I v1 (Int32.toNatClampNeg v3)) = 0 then
        lw_86_4 n v1 v2 (v3 + 1) T r I E0
      else
        lw_86_4 n v1 (v2 + 1) (v3 + 1) T r I E0
set_option maxRecDepth 100000 in
theorem sl_86_4 {S : am_S} {d : Nat} {Q : am_Q} {N : Nat} {T : Nat → Nat × Nat} {I : am_I} {L : am_J} {r : Nat → Nat → Option Nat} {E0 : Int32 → Int32 → Prop} : ∀ (n : Nat) {v1 : Nat} {v2 : Int32} {v3 : Int32}, lw_86_4 n v1 v2 v3 T r I E0 → (∀ (o2 : Int32) (o3 : Int32), E0 o2 o3 → am_E S 86 (d + 0) 0 0 27 [.ref 1, .ref v1, .int o2, .int o3] [] (N, am_ts T, I, L, am_rs r) Q) → am_E S 86 (d + 0) 0 0 4 [.ref 1, .ref v1, .int v2, .int v3] [] (N, am_ts T, I, L, am_rs r) Q
  | 0, _, _, _, hw, _ => hw.elim
  | n + 1, v1, v2, v3, hw, hE0 => by
    have ih := @sl_86_4 S d Q N T I L r E0 n
    unfold lw_86_4 at hw
    try dsimp only at hw
    refine am_E.run [4, 27] 2000 (show (if (I 1 10) ≤ v3 then (am_E S 86 (d + 0) 0 0 27 [.ref 1, .ref v1, .int v2, .int v3] [] (N, am_ts T, I, L, am_rs r) Q) else (if (am_ts T v1).1 = 20 then (if v3 < 0 ∨ (am_ts T v1).2 ≤ Int32.toNatClampNeg v3 then False else (if (I v1 (Int32.toNatClampNeg v3)) = 0 then (am_E S 86 (d + 0) 0 0 4 [.ref 1, .ref v1, .int v2, .int (v3 + 1)] [] (N, am_ts T, I, L, am_rs r) Q) else (am_E S 86 (d + 0) 0 0 4 [.ref 1, .ref v1, .int (v2 + 1), .int (v3 + 1)] [] (N, am_ts T, I, L, am_rs r) Q))) else False)) from ?_)
    by_cases hc : (I 1 10) ≤ v3
    · rw [if_pos hc] at hw ⊢
      exact hE0 _ _ hw
    · rw [if_neg hc] at hw ⊢
      refine am_ifp hw.1 ?_
      replace hw := hw.2
      refine am_ifn hw.1 ?_
      replace hw := hw.2
      by_cases hc : (I v1 (Int32.toNatClampNeg v3)) = 0
      · rw [if_pos hc] at hw ⊢
        exact ih hw hE0
      · rw [if_neg hc] at hw ⊢
        exact ih hw hE0
/-- KeyKeepers$Prison.insideAt([I)I -/
def w_86 (x0 : Nat) (T : Nat → Nat × Nat) (r : Nat → Nat → Option Nat) (I : am_I) (K : Int32 → Prop) : Prop :=
  ∃ n4, lw_86_4 n4 x0 0 0 T r I (fun o1 o2 =>
    K o1)
set_option maxRecDepth 100000 in
theorem s_86 {S : am_S} {d : Nat} {N : Nat} {T : Nat → Nat × Nat} {I : am_I} {L : am_J} {r : Nat → Nat → Option Nat} {Q : am_Q} {x0 : Nat} {K : Int32 → Prop} (hw : w_86 x0 T r I K) (hK : ∀ (q : Int32), K q → Q (some (.int q)) (N, am_ts T, I, L, am_rs r)) : am_E S 86 (d + 0) 0 0 0 [.ref 1, .ref x0, am_jk, am_jk] [] (N, am_ts T, I, L, am_rs r) Q := by
  unfold w_86 at hw
  try dsimp only at hw
  refine am_E.run [4] 2000 (show (am_E S 86 (d + 0) 0 0 4 [.ref 1, .ref x0, .int 0, .int 0] [] (N, am_ts T, I, L, am_rs r) Q) from ?_)
  obtain ⟨n4, hw⟩ := hw
  refine sl_86_4 n4 hw (fun o1 o2 hw => ?_)
  · try dsimp only at hw
    refine am_E.run [] 2000 (show (True ∧ Q (some (.int o1)) (N, am_ts T, I, L, am_rs r)) from ?_)
    exact ⟨trivial, hK _ hw⟩
/-- KeyKeepers$Text.markOf(II)I -/
def w_88 (a : Nat) (x0 : Int32) (x1 : Int32) (T : Nat → Nat × Nat) (r : Nat → Nat → Option Nat) (I : am_I) (K : Int32 → Prop) : Prop :=
  if x0 < 0 then
    K 0
  else
    if x1 < 0 then
      K 0
    else
      (am_ts T a).1 = 11 ∧ ∃ c1, (am_rs r a 5) = some c1 ∧
      (20 ≤ (am_ts T c1).1 ∧ (am_ts T c1).1 ≤ 24) ∧
      if (Int32.ofNat (am_ts T c1).2) ≤ ((x0 * 5) + x1) then
        K 0
      else
        (am_ts T a).1 = 11 ∧ ∃ c2, (am_rs r a 5) = some c2 ∧
        ((am_ts T c2).1 = 20) ∧
        ¬ (((x0 * 5) + x1) < 0 ∨ (am_ts T c2).2 ≤ Int32.toNatClampNeg ((x0 * 5) + x1)) ∧
        K (I c2 (Int32.toNatClampNeg ((x0 * 5) + x1)))
set_option maxRecDepth 100000 in
theorem s_88 {S : am_S} {d : Nat} {N : Nat} {T : Nat → Nat × Nat} {I : am_I} {L : am_J} {r : Nat → Nat → Option Nat} {Q : am_Q} {a : Nat} {x0 : Int32} {x1 : Int32} {K : Int32 → Prop} (hw : w_88 a x0 x1 T r I K) (hK : ∀ (q : Int32), K q → Q (some (.int q)) (N, am_ts T, I, L, am_rs r)) : am_E S 88 (d + 0) 0 0 0 [.ref a, .int x0, .int x1, am_jk] [] (N, am_ts T, I, L, am_rs r) Q := by
  unfold w_88 at hw
  try dsimp only at hw
  refine am_E.run [19] 2000 (show (if x0 < 0 then (True ∧ Q (some (.int 0)) (N, am_ts T, I, L, am_rs r)) else (if x1 < 0 then (True ∧ Q (some (.int 0)) (N, am_ts T, I, L, am_rs r)) else (if (am_ts T a).1 = 11 ∧ 2 < 4 then (am_E S 88 (d + 0) 0 0 19 [.ref a, .int x0, .int x1, .int ((x0 * 5) + x1)] [am_rv (am_rs r a 5), .int ((x0 * 5) + x1)] (N, am_ts T, I, L, am_rs r) Q) else False))) from ?_)
  by_cases hc : x0 < 0
  · rw [if_pos hc] at hw ⊢
    exact ⟨trivial, hK _ hw⟩
  · rw [if_neg hc] at hw ⊢
    by_cases hc : x1 < 0
    · rw [if_pos hc] at hw ⊢
      exact ⟨trivial, hK _ hw⟩
    · rw [if_neg hc] at hw ⊢
      refine am_ifp ⟨hw.1, by decide⟩ ?_
      replace hw := hw.2
      obtain ⟨c1, hx, hw⟩ := hw
      rw [hx]
      refine am_E.run [27] 2000 (show (if 20 ≤ (am_ts T c1).1 ∧ (am_ts T c1).1 ≤ 24 then (if (Int32.ofNat (am_ts T c1).2) ≤ ((x0 * 5) + x1) then (True ∧ Q (some (.int 0)) (N, am_ts T, I, L, am_rs r)) else (if (am_ts T a).1 = 11 ∧ 2 < 4 then (am_E S 88 (d + 0) 0 0 27 [.ref a, .int x0, .int x1, .int ((x0 * 5) + x1)] [am_rv (am_rs r a 5)] (N, am_ts T, I, L, am_rs r) Q) else False)) else False) from ?_)
      refine am_ifp hw.1 ?_
      replace hw := hw.2
      by_cases hc : (Int32.ofNat (am_ts T c1).2) ≤ ((x0 * 5) + x1)
      · rw [if_pos hc] at hw ⊢
        exact ⟨trivial, hK _ hw⟩
      · rw [if_neg hc] at hw ⊢
        refine am_ifp ⟨hw.1, by decide⟩ ?_
        replace hw := hw.2
        obtain ⟨c2, hx, hw⟩ := hw
        rw [hx]
        refine am_E.run [] 2000 (show (if (am_ts T c2).1 = 20 then (if ((x0 * 5) + x1) < 0 ∨ (am_ts T c2).2 ≤ Int32.toNatClampNeg ((x0 * 5) + x1) then False else (True ∧ Q (some (.int (I c2 (Int32.toNatClampNeg ((x0 * 5) + x1))))) (N, am_ts T, I, L, am_rs r))) else False) from ?_)
        refine am_ifp hw.1 ?_
        replace hw := hw.2
        refine am_ifn hw.1 ?_
        replace hw := hw.2
        exact ⟨trivial, hK _ hw⟩
/-- KeyKeepers$Machine.puts(LKeyKeepers$Prison;II)Z -/
def w_89 (x1 : Int32) (x2 : Int32) (I : am_I) (K : Int32 → am_I → Prop) : Prop :=
  if x1 = 1 then
    if (Int32.ofNat 14) ≤ x2 then
      if (I 24 3) < 32 then
        ¬ ((I 24 3) < 0 ∨ 32 ≤ Int32.toNatClampNeg (I 24 3)) ∧
        K 1 (am_u (am_u I 26 (Int32.toNatClampNeg (I 24 3)) 0) 24 3 ((I 24 3) + 1))
      else
        K 0 I
    else
      ¬ (x2 < 0 ∨ 14 ≤ Int32.toNatClampNeg x2) ∧
      if (I 24 3) < 32 then
        ¬ ((I 24 3) < 0 ∨ 32 ≤ Int32.toNatClampNeg (I 24 3)) ∧
        K 1 (am_u (am_u I 26 (Int32.toNatClampNeg (I 24 3)) (I 25 (Int32.toNatClampNeg x2))) 24 3 ((I 24 3) + 1))
      else
        K 0 I
  else
    if x1 = 2 then
      if (I 1 10) ≤ x2 then
        if (I 24 3) < 32 then
          ¬ ((I 24 3) < 0 ∨ 32 ≤ Int32.toNatClampNeg (I 24 3)) ∧
          K 1 (am_u (am_u I 26 (Int32.toNatClampNeg (I 24 3)) (-1)) 24 3 ((I 24 3) + 1))
        else
          K 0 I
      else
        ¬ (x2 < 0 ∨ 8 ≤ Int32.toNatClampNeg x2) ∧
        if (I 24 3) < 32 then
          ¬ ((I 24 3) < 0 ∨ 32 ≤ Int32.toNatClampNeg (I 24 3)) ∧
          K 1 (am_u (am_u I 26 (Int32.toNatClampNeg (I 24 3)) (I 6 (Int32.toNatClampNeg x2))) 24 3 ((I 24 3) + 1))
        else
          K 0 I
    else
      if x1 = 3 then
        if (I 1 10) ≤ (x2 / 12) then
          if (I 24 3) < 32 then
            ¬ ((I 24 3) < 0 ∨ 32 ≤ Int32.toNatClampNeg (I 24 3)) ∧
            K 1 (am_u (am_u I 26 (Int32.toNatClampNeg (I 24 3)) (-1)) 24 3 ((I 24 3) + 1))
          else
            K 0 I
        else
          ¬ ((x2 / 12) < 0 ∨ 8 ≤ Int32.toNatClampNeg (x2 / 12)) ∧
          if (I 24 3) < 32 then
            ¬ ((I 24 3) < 0 ∨ 32 ≤ Int32.toNatClampNeg (I 24 3)) ∧
            K 1 (am_u (am_u I 26 (Int32.toNatClampNeg (I 24 3)) (((I 7 (Int32.toNatClampNeg (x2 / 12))) >>> ((x2 - x2 / 12 * 12) &&& 31)) &&& 1)) 24 3 ((I 24 3) + 1))
          else
            K 0 I
      else
        if (I 24 3) < 32 then
          ¬ ((I 24 3) < 0 ∨ 32 ≤ Int32.toNatClampNeg (I 24 3)) ∧
          K 1 (am_u (am_u I 26 (Int32.toNatClampNeg (I 24 3)) x2) 24 3 ((I 24 3) + 1))
        else
          K 0 I
set_option maxRecDepth 100000 in
theorem s_89 {S : am_S} {d : Nat} {N : Nat} {T : Nat → Nat × Nat} {I : am_I} {L : am_J} {r : Nat → Nat → Option Nat} {Q : am_Q} {x1 : Int32} {x2 : Int32} {K : Int32 → am_I → Prop} (hw : w_89 x1 x2 I K) (hK : ∀ (q : Int32) (I1 : am_I), K q I1 → Q (some (.int q)) (N, am_ts T, I1, L, am_rs r)) : am_E S 89 (d + 0) 0 0 0 [.ref 24, .ref 1, .int x1, .int x2, am_jk, am_jk] [] (N, am_ts T, I, L, am_rs r) Q := by
  unfold w_89 at hw
  try dsimp only at hw
  refine am_E.run [] 2000 (show (if x1 = 1 then (if (Int32.ofNat 14) ≤ x2 then (if (I 24 3) < 32 then (if (I 24 3) < 0 ∨ 32 ≤ Int32.toNatClampNeg (I 24 3) then False else (((1 : Int32) = 0 ∨ (1 : Int32) = 1) ∧ Q (some (.int 1)) (N, am_ts T, (am_u (am_u I 26 (Int32.toNatClampNeg (I 24 3)) 0) 24 3 ((I 24 3) + 1)), L, am_rs r))) else (((0 : Int32) = 0 ∨ (0 : Int32) = 1) ∧ Q (some (.int 0)) (N, am_ts T, I, L, am_rs r))) else (if x2 < 0 ∨ 14 ≤ Int32.toNatClampNeg x2 then False else (if (I 24 3) < 32 then (if (I 24 3) < 0 ∨ 32 ≤ Int32.toNatClampNeg (I 24 3) then False else (((1 : Int32) = 0 ∨ (1 : Int32) = 1) ∧ Q (some (.int 1)) (N, am_ts T, (am_u (am_u I 26 (Int32.toNatClampNeg (I 24 3)) (I 25 (Int32.toNatClampNeg x2))) 24 3 ((I 24 3) + 1)), L, am_rs r))) else (((0 : Int32) = 0 ∨ (0 : Int32) = 1) ∧ Q (some (.int 0)) (N, am_ts T, I, L, am_rs r))))) else (if x1 = 2 then (if (I 1 10) ≤ x2 then (if (I 24 3) < 32 then (if (I 24 3) < 0 ∨ 32 ≤ Int32.toNatClampNeg (I 24 3) then False else (((1 : Int32) = 0 ∨ (1 : Int32) = 1) ∧ Q (some (.int 1)) (N, am_ts T, (am_u (am_u I 26 (Int32.toNatClampNeg (I 24 3)) (-1)) 24 3 ((I 24 3) + 1)), L, am_rs r))) else (((0 : Int32) = 0 ∨ (0 : Int32) = 1) ∧ Q (some (.int 0)) (N, am_ts T, I, L, am_rs r))) else (if x2 < 0 ∨ 8 ≤ Int32.toNatClampNeg x2 then False else (if (I 24 3) < 32 then (if (I 24 3) < 0 ∨ 32 ≤ Int32.toNatClampNeg (I 24 3) then False else (((1 : Int32) = 0 ∨ (1 : Int32) = 1) ∧ Q (some (.int 1)) (N, am_ts T, (am_u (am_u I 26 (Int32.toNatClampNeg (I 24 3)) (I 6 (Int32.toNatClampNeg x2))) 24 3 ((I 24 3) + 1)), L, am_rs r))) else (((0 : Int32) = 0 ∨ (0 : Int32) = 1) ∧ Q (some (.int 0)) (N, am_ts T, I, L, am_rs r))))) else (if x1 = 3 then (if (I 1 10) ≤ (x2 / 12) then (if (I 24 3) < 32 then (if (I 24 3) < 0 ∨ 32 ≤ Int32.toNatClampNeg (I 24 3) then False else (((1 : Int32) = 0 ∨ (1 : Int32) = 1) ∧ Q (some (.int 1)) (N, am_ts T, (am_u (am_u I 26 (Int32.toNatClampNeg (I 24 3)) (-1)) 24 3 ((I 24 3) + 1)), L, am_rs r))) else (((0 : Int32) = 0 ∨ (0 : Int32) = 1) ∧ Q (some (.int 0)) (N, am_ts T, I, L, am_rs r))) else (if (x2 / 12) < 0 ∨ 8 ≤ Int32.toNatClampNeg (x2 / 12) then False else (if (I 24 3) < 32 then (if (I 24 3) < 0 ∨ 32 ≤ Int32.toNatClampNeg (I 24 3) then False else (((1 : Int32) = 0 ∨ (1 : Int32) = 1) ∧ Q (some (.int 1)) (N, am_ts T, (am_u (am_u I 26 (Int32.toNatClampNeg (I 24 3)) (((I 7 (Int32.toNatClampNeg (x2 / 12))) >>> ((x2 - x2 / 12 * 12) &&& 31)) &&& 1)) 24 3 ((I 24 3) + 1)), L, am_rs r))) else (((0 : Int32) = 0 ∨ (0 : Int32) = 1) ∧ Q (some (.int 0)) (N, am_ts T, I, L, am_rs r))))) else (if (I 24 3) < 32 then (if (I 24 3) < 0 ∨ 32 ≤ Int32.toNatClampNeg (I 24 3) then False else (((1 : Int32) = 0 ∨ (1 : Int32) = 1) ∧ Q (some (.int 1)) (N, am_ts T, (am_u (am_u I 26 (Int32.toNatClampNeg (I 24 3)) x2) 24 3 ((I 24 3) + 1)), L, am_rs r))) else (((0 : Int32) = 0 ∨ (0 : Int32) = 1) ∧ Q (some (.int 0)) (N, am_ts T, I, L, am_rs r)))))) from ?_)
  by_cases hc : x1 = 1
  · rw [if_pos hc] at hw ⊢
    by_cases hc : (Int32.ofNat 14) ≤ x2
    · rw [if_pos hc] at hw ⊢
      by_cases hc : (I 24 3) < 32
      · rw [if_pos hc] at hw ⊢
        refine am_ifn hw.1 ?_
        replace hw := hw.2
        exact ⟨Or.inr rfl, hK _ _ hw⟩
      · rw [if_neg hc] at hw ⊢
        exact ⟨Or.inl rfl, hK _ _ hw⟩
    · rw [if_neg hc] at hw ⊢
      refine am_ifn hw.1 ?_
      replace hw := hw.2
      by_cases hc : (I 24 3) < 32
      · rw [if_pos hc] at hw ⊢
        refine am_ifn hw.1 ?_
        replace hw := hw.2
        exact ⟨Or.inr rfl, hK _ _ hw⟩
      · rw [if_neg hc] at hw ⊢
        exact ⟨Or.inl rfl, hK _ _ hw⟩
  · rw [if_neg hc] at hw ⊢
    by_cases hc : x1 = 2
    · rw [if_pos hc] at hw ⊢
      by_cases hc : (I 1 10) ≤ x2
      · rw [if_pos hc] at hw ⊢
        by_cases hc : (I 24 3) < 32
        · rw [if_pos hc] at hw ⊢
          refine am_ifn hw.1 ?_
          replace hw := hw.2
          exact ⟨Or.inr rfl, hK _ _ hw⟩
        · rw [if_neg hc] at hw ⊢
          exact ⟨Or.inl rfl, hK _ _ hw⟩
      · rw [if_neg hc] at hw ⊢
        refine am_ifn hw.1 ?_
        replace hw := hw.2
        by_cases hc : (I 24 3) < 32
        · rw [if_pos hc] at hw ⊢
          refine am_ifn hw.1 ?_
          replace hw := hw.2
          exact ⟨Or.inr rfl, hK _ _ hw⟩
        · rw [if_neg hc] at hw ⊢
          exact ⟨Or.inl rfl, hK _ _ hw⟩
    · rw [if_neg hc] at hw ⊢
      by_cases hc : x1 = 3
      · rw [if_pos hc] at hw ⊢
        by_cases hc : (I 1 10) ≤ (x2 / 12)
        · rw [if_pos hc] at hw ⊢
          by_cases hc : (I 24 3) < 32
          · rw [if_pos hc] at hw ⊢
            refine am_ifn hw.1 ?_
            replace hw := hw.2
            exact ⟨Or.inr rfl, hK _ _ hw⟩
          · rw [if_neg hc] at hw ⊢
            exact ⟨Or.inl rfl, hK _ _ hw⟩
        · rw [if_neg hc] at hw ⊢
          refine am_ifn hw.1 ?_
          replace hw := hw.2
          by_cases hc : (I 24 3) < 32
          · rw [if_pos hc] at hw ⊢
            refine am_ifn hw.1 ?_
            replace hw := hw.2
            exact ⟨Or.inr rfl, hK _ _ hw⟩
          · rw [if_neg hc] at hw ⊢
            exact ⟨Or.inl rfl, hK _ _ hw⟩
      · rw [if_neg hc] at hw ⊢
        by_cases hc : (I 24 3) < 32
        · rw [if_pos hc] at hw ⊢
          refine am_ifn hw.1 ?_
          replace hw := hw.2
          exact ⟨Or.inr rfl, hK _ _ hw⟩
        · rw [if_neg hc] at hw ⊢
          exact ⟨Or.inl rfl, hK _ _ hw⟩
def wb_90_215 (v6 : Int64) (I : am_I) (K : Int32 → am_I → Prop) : Prop :=
  if (0 : Int32) < (lg_cmp v6 1000000000) then
    K 0 I
  else
    if (0 : Int32) ≤ (lg_cmp v6 (-1000000000)) then
      ¬ ((((I 24 3) - 1) - 1) < 0 ∨ 32 ≤ Int32.toNatClampNeg (((I 24 3) - 1) - 1)) ∧
      K 1 (am_u (am_u I 24 3 ((I 24 3) - 1)) 26 (Int32.toNatClampNeg (((I 24 3) - 1) - 1)) (Int64.toInt32 v6))
    else
      K 0 I
set_option maxRecDepth 100000 in
theorem sb_90_215 {S : am_S} {d : Nat} {N : Nat} {T : Nat → Nat × Nat} {I : am_I} {L : am_J} {r : Nat → Nat → Option Nat} {Q : am_Q} {v6 : Int64} {K : Int32 → am_I → Prop} (hw : wb_90_215 v6 I K) (hK : ∀ (q : Int32) (I1 : am_I), K q I1 → Q (some (.int q)) (N, am_ts T, I1, L, am_rs r)) : am_E S 90 (d + 0) 0 0 215 [.ref 24, am_jk, am_jk, am_jk, am_jk, am_jk, .long v6, am_jk] [] (N, am_ts T, I, L, am_rs r) Q := by
  unfold wb_90_215 at hw
  try dsimp only at hw
  refine am_E.run [] 2000 (show (if (0 : Int32) < (lg_cmp v6 1000000000) then (((0 : Int32) = 0 ∨ (0 : Int32) = 1) ∧ Q (some (.int 0)) (N, am_ts T, I, L, am_rs r)) else (if (0 : Int32) ≤ (lg_cmp v6 (-1000000000)) then (if (((I 24 3) - 1) - 1) < 0 ∨ 32 ≤ Int32.toNatClampNeg (((I 24 3) - 1) - 1) then False else (((1 : Int32) = 0 ∨ (1 : Int32) = 1) ∧ Q (some (.int 1)) (N, am_ts T, (am_u (am_u I 24 3 ((I 24 3) - 1)) 26 (Int32.toNatClampNeg (((I 24 3) - 1) - 1)) (Int64.toInt32 v6)), L, am_rs r))) else (((0 : Int32) = 0 ∨ (0 : Int32) = 1) ∧ Q (some (.int 0)) (N, am_ts T, I, L, am_rs r)))) from ?_)
  by_cases hc : (0 : Int32) < (lg_cmp v6 1000000000)
  · rw [if_pos hc] at hw ⊢
    exact ⟨Or.inl rfl, hK _ _ hw⟩
  · rw [if_neg hc] at hw ⊢
    by_cases hc : (0 : Int32) ≤ (lg_cmp v6 (-1000000000))
    · rw [if_pos hc] at hw ⊢
      refine am_ifn hw.1 ?_
      replace hw := hw.2
      exact ⟨Or.inr rfl, hK _ _ hw⟩
    · rw [if_neg hc] at hw ⊢
      exact ⟨Or.inl rfl, hK _ _ hw⟩
def wb_90_58 (v1 : Int32) (v2 : Int64) (v4 : Int64) (I : am_I) (K : Int32 → am_I → Prop) : Prop :=
  if v1 = 4 then
    wb_90_215 (v2 + v4) I K
  else
  if v1 = 5 then
    wb_90_215 (v2 - v4) I K
  else
  if v1 = 6 then
    wb_90_215 (v2 * v4) I K
  else
  if v1 = 7 then
    if (lg_cmp v4 0) = 0 then
      wb_90_215 0 I K
    else
      ¬ (v4 = 0) ∧
      wb_90_215 (v2 / v4) I K
  else
  if v1 = 8 then
    if (lg_cmp v4 0) = 0 then
      wb_90_215 0 I K
    else
      ¬ (v4 = 0) ∧
      wb_90_215 (v2 - v2 / v4 * v4) I K
  else
  if v1 = 9 then
    if (0 : Int32) ≤ (lg_cmp v2 v4) then
      wb_90_215 0 I K
    else
      wb_90_215 1 I K
  else
  if v1 = 10 then
    if (lg_cmp v2 v4) ≤ 0 then
      wb_90_215 0 I K
    else
      wb_90_215 1 I K
  else
  if (lg_cmp v2 v4) = 0 then
    wb_90_215 1 I K
  else
    wb_90_215 0 I K
set_option maxRecDepth 100000 in
theorem sb_90_58 {S : am_S} {d : Nat} {N : Nat} {T : Nat → Nat × Nat} {I : am_I} {L : am_J} {r : Nat → Nat → Option Nat} {Q : am_Q} {v1 : Int32} {v2 : Int64} {v4 : Int64} {K : Int32 → am_I → Prop} (hw : wb_90_58 v1 v2 v4 I K) (hK : ∀ (q : Int32) (I1 : am_I), K q I1 → Q (some (.int q)) (N, am_ts T, I1, L, am_rs r)) : am_E S 90 (d + 0) 0 0 58 [.ref 24, .int v1, .long v2, am_jk, .long v4, am_jk, am_jk, am_jk] [] (N, am_ts T, I, L, am_rs r) Q := by
  unfold wb_90_58 at hw
  try dsimp only at hw
  refine am_E.run [59] 2000 (show (am_E S 90 (d + 0) 0 0 59 [.ref 24, .int v1, .long v2, am_jk, .long v4, am_jk, am_jk, am_jk] [.int v1] (N, am_ts T, I, L, am_rs r) Q) from ?_)
  by_cases hc0 : v1 = 4
  · rw [if_pos hc0] at hw
    refine am_E.swap (k := 4) hc0 ?_
    refine am_E.go (show (am_E S 90 (d + 0) 0 0 100 [.ref 24, .int v1, .long v2, am_jk, .long v4, am_jk, am_jk, am_jk] [] (N, am_ts T, I, L, am_rs r) Q) from ?_)
    refine am_E.run [215] 2000 (show (am_E S 90 (d + 0) 0 0 215 [.ref 24, .int v1, .long v2, am_jk, .long v4, am_jk, .long (v2 + v4), am_jk] [] (N, am_ts T, I, L, am_rs r) Q) from ?_)
    exact am_E.junk (sb_90_215 hw hK) (am_le.cons (am_le.jk (am_le.jk (am_le.cons (am_le.jk (am_le.cons (am_le.cons (am_le.cons am_le.nil))))))))
  rw [if_neg hc0] at hw
  by_cases hc1 : v1 = 5
  · rw [if_pos hc1] at hw
    refine am_E.swap (k := 5) hc1 ?_
    refine am_E.go (show (am_E S 90 (d + 0) 0 0 109 [.ref 24, .int v1, .long v2, am_jk, .long v4, am_jk, am_jk, am_jk] [] (N, am_ts T, I, L, am_rs r) Q) from ?_)
    refine am_E.run [215] 2000 (show (am_E S 90 (d + 0) 0 0 215 [.ref 24, .int v1, .long v2, am_jk, .long v4, am_jk, .long (v2 - v4), am_jk] [] (N, am_ts T, I, L, am_rs r) Q) from ?_)
    exact am_E.junk (sb_90_215 hw hK) (am_le.cons (am_le.jk (am_le.jk (am_le.cons (am_le.jk (am_le.cons (am_le.cons (am_le.cons am_le.nil))))))))
  rw [if_neg hc1] at hw
  by_cases hc2 : v1 = 6
  · rw [if_pos hc2] at hw
    refine am_E.swap (k := 6) hc2 ?_
    refine am_E.go (show (am_E S 90 (d + 0) 0 0 118 [.ref 24, .int v1, .long v2, am_jk, .long v4, am_jk, am_jk, am_jk] [] (N, am_ts T, I, L, am_rs r) Q) from ?_)
    refine am_E.run [215] 2000 (show (am_E S 90 (d + 0) 0 0 215 [.ref 24, .int v1, .long v2, am_jk, .long v4, am_jk, .long (v2 * v4), am_jk] [] (N, am_ts T, I, L, am_rs r) Q) from ?_)
    exact am_E.junk (sb_90_215 hw hK) (am_le.cons (am_le.jk (am_le.jk (am_le.cons (am_le.jk (am_le.cons (am_le.cons (am_le.cons am_le.nil))))))))
  rw [if_neg hc2] at hw
  by_cases hc3 : v1 = 7
  · rw [if_pos hc3] at hw
    refine am_E.swap (k := 7) hc3 ?_
    refine am_E.go (show (am_E S 90 (d + 0) 0 0 127 [.ref 24, .int v1, .long v2, am_jk, .long v4, am_jk, am_jk, am_jk] [] (N, am_ts T, I, L, am_rs r) Q) from ?_)
    refine am_E.run [215] 2000 (show (if (lg_cmp v4 0) = 0 then (am_E S 90 (d + 0) 0 0 215 [.ref 24, .int v1, .long v2, am_jk, .long v4, am_jk, .long 0, am_jk] [] (N, am_ts T, I, L, am_rs r) Q) else (if v4 = 0 then False else (am_E S 90 (d + 0) 0 0 215 [.ref 24, .int v1, .long v2, am_jk, .long v4, am_jk, .long (v2 / v4), am_jk] [] (N, am_ts T, I, L, am_rs r) Q))) from ?_)
    by_cases hc : (lg_cmp v4 0) = 0
    · rw [if_pos hc] at hw ⊢
      exact am_E.junk (sb_90_215 hw hK) (am_le.cons (am_le.jk (am_le.jk (am_le.cons (am_le.jk (am_le.cons (am_le.cons (am_le.cons am_le.nil))))))))
    · rw [if_neg hc] at hw ⊢
      refine am_ifn hw.1 ?_
      replace hw := hw.2
      exact am_E.junk (sb_90_215 hw hK) (am_le.cons (am_le.jk (am_le.jk (am_le.cons (am_le.jk (am_le.cons (am_le.cons (am_le.cons am_le.nil))))))))
  rw [if_neg hc3] at hw
  by_cases hc4 : v1 = 8
  · rw [if_pos hc4] at hw
    refine am_E.swap (k := 8) hc4 ?_
    refine am_E.go (show (am_E S 90 (d + 0) 0 0 147 [.ref 24, .int v1, .long v2, am_jk, .long v4, am_jk, am_jk, am_jk] [] (N, am_ts T, I, L, am_rs r) Q) from ?_)
    refine am_E.run [215] 2000 (show (if (lg_cmp v4 0) = 0 then (am_E S 90 (d + 0) 0 0 215 [.ref 24, .int v1, .long v2, am_jk, .long v4, am_jk, .long 0, am_jk] [] (N, am_ts T, I, L, am_rs r) Q) else (if v4 = 0 then False else (am_E S 90 (d + 0) 0 0 215 [.ref 24, .int v1, .long v2, am_jk, .long v4, am_jk, .long (v2 - v2 / v4 * v4), am_jk] [] (N, am_ts T, I, L, am_rs r) Q))) from ?_)
    by_cases hc : (lg_cmp v4 0) = 0
    · rw [if_pos hc] at hw ⊢
      exact am_E.junk (sb_90_215 hw hK) (am_le.cons (am_le.jk (am_le.jk (am_le.cons (am_le.jk (am_le.cons (am_le.cons (am_le.cons am_le.nil))))))))
    · rw [if_neg hc] at hw ⊢
      refine am_ifn hw.1 ?_
      replace hw := hw.2
      exact am_E.junk (sb_90_215 hw hK) (am_le.cons (am_le.jk (am_le.jk (am_le.cons (am_le.jk (am_le.cons (am_le.cons (am_le.cons am_le.nil))))))))
  rw [if_neg hc4] at hw
  by_cases hc5 : v1 = 9
  · rw [if_pos hc5] at hw
    refine am_E.swap (k := 9) hc5 ?_
    refine am_E.go (show (am_E S 90 (d + 0) 0 0 167 [.ref 24, .int v1, .long v2, am_jk, .long v4, am_jk, am_jk, am_jk] [] (N, am_ts T, I, L, am_rs r) Q) from ?_)
    refine am_E.run [215] 2000 (show (if (0 : Int32) ≤ (lg_cmp v2 v4) then (am_E S 90 (d + 0) 0 0 215 [.ref 24, .int v1, .long v2, am_jk, .long v4, am_jk, .long 0, am_jk] [] (N, am_ts T, I, L, am_rs r) Q) else (am_E S 90 (d + 0) 0 0 215 [.ref 24, .int v1, .long v2, am_jk, .long v4, am_jk, .long 1, am_jk] [] (N, am_ts T, I, L, am_rs r) Q)) from ?_)
    by_cases hc : (0 : Int32) ≤ (lg_cmp v2 v4)
    · rw [if_pos hc] at hw ⊢
      exact am_E.junk (sb_90_215 hw hK) (am_le.cons (am_le.jk (am_le.jk (am_le.cons (am_le.jk (am_le.cons (am_le.cons (am_le.cons am_le.nil))))))))
    · rw [if_neg hc] at hw ⊢
      exact am_E.junk (sb_90_215 hw hK) (am_le.cons (am_le.jk (am_le.jk (am_le.cons (am_le.jk (am_le.cons (am_le.cons (am_le.cons am_le.nil))))))))
  rw [if_neg hc5] at hw
  by_cases hc6 : v1 = 10
  · rw [if_pos hc6] at hw
    refine am_E.swap (k := 10) hc6 ?_
    refine am_E.go (show (am_E S 90 (d + 0) 0 0 184 [.ref 24, .int v1, .long v2, am_jk, .long v4, am_jk, am_jk, am_jk] [] (N, am_ts T, I, L, am_rs r) Q) from ?_)
    refine am_E.run [215] 2000 (show (if (lg_cmp v2 v4) ≤ 0 then (am_E S 90 (d + 0) 0 0 215 [.ref 24, .int v1, .long v2, am_jk, .long v4, am_jk, .long 0, am_jk] [] (N, am_ts T, I, L, am_rs r) Q) else (am_E S 90 (d + 0) 0 0 215 [.ref 24, .int v1, .long v2, am_jk, .long v4, am_jk, .long 1, am_jk] [] (N, am_ts T, I, L, am_rs r) Q)) from ?_)
    by_cases hc : (lg_cmp v2 v4) ≤ 0
    · rw [if_pos hc] at hw ⊢
      exact am_E.junk (sb_90_215 hw hK) (am_le.cons (am_le.jk (am_le.jk (am_le.cons (am_le.jk (am_le.cons (am_le.cons (am_le.cons am_le.nil))))))))
    · rw [if_neg hc] at hw ⊢
      exact am_E.junk (sb_90_215 hw hK) (am_le.cons (am_le.jk (am_le.jk (am_le.cons (am_le.jk (am_le.cons (am_le.cons (am_le.cons am_le.nil))))))))
  rw [if_neg hc6] at hw
  have hd : (v1).toInt < 4 ∨ 10 < (v1).toInt := by
    have g0 := am_ine hc0
    have g1 := am_ine hc1
    have g2 := am_ine hc2
    have g3 := am_ine hc3
    have g4 := am_ine hc4
    have g5 := am_ine hc5
    have g6 := am_ine hc6
    change (v1).toInt ≠ 4 at g0
    change (v1).toInt ≠ 5 at g1
    change (v1).toInt ≠ 6 at g2
    change (v1).toInt ≠ 7 at g3
    change (v1).toInt ≠ 8 at g4
    change (v1).toInt ≠ 9 at g5
    change (v1).toInt ≠ 10 at g6
    omega
  refine am_E.go (show (if (v1).toInt < 4 ∨ 10 < (v1).toInt then (am_E S 90 (d + 0) 0 0 201 [.ref 24, .int v1, .long v2, am_jk, .long v4, am_jk, am_jk, am_jk] [] (N, am_ts T, I, L, am_rs r) Q) else _) from ?_)
  rw [if_pos hd]
  refine am_E.run [215] 2000 (show (if (lg_cmp v2 v4) = 0 then (am_E S 90 (d + 0) 0 0 215 [.ref 24, .int v1, .long v2, am_jk, .long v4, am_jk, .long 1, am_jk] [] (N, am_ts T, I, L, am_rs r) Q) else (am_E S 90 (d + 0) 0 0 215 [.ref 24, .int v1, .long v2, am_jk, .long v4, am_jk, .long 0, am_jk] [] (N, am_ts T, I, L, am_rs r) Q)) from ?_)
  by_cases hc : (lg_cmp v2 v4) = 0
  · rw [if_pos hc] at hw ⊢
    exact am_E.junk (sb_90_215 hw hK) (am_le.cons (am_le.jk (am_le.jk (am_le.cons (am_le.jk (am_le.cons (am_le.cons (am_le.cons am_le.nil))))))))
  · rw [if_neg hc] at hw ⊢
    exact am_E.junk (sb_90_215 hw hK) (am_le.cons (am_le.jk (am_le.jk (am_le.cons (am_le.jk (am_le.cons (am_le.cons (am_le.cons am_le.nil))))))))
/-- KeyKeepers$Machine.joins(I)Z -/
def w_90 (x0 : Int32) (I : am_I) (K : Int32 → am_I → Prop) : Prop :=
  if (2 : Int32) ≤ (I 24 3) then
    ¬ (((I 24 3) - 2) < 0 ∨ 32 ≤ Int32.toNatClampNeg ((I 24 3) - 2)) ∧
    ¬ (((I 24 3) - 1) < 0 ∨ 32 ≤ Int32.toNatClampNeg ((I 24 3) - 1)) ∧
    if (lg_cmp (Int32.toInt64 (I 26 (Int32.toNatClampNeg ((I 24 3) - 1)))) 0) = 0 then
      if x0 = 7 then
        K 0 I
      else
        if x0 = 8 then
          K 0 I
        else
          wb_90_58 x0 (Int32.toInt64 (I 26 (Int32.toNatClampNeg ((I 24 3) - 2)))) (Int32.toInt64 (I 26 (Int32.toNatClampNeg ((I 24 3) - 1)))) I K
    else
      wb_90_58 x0 (Int32.toInt64 (I 26 (Int32.toNatClampNeg ((I 24 3) - 2)))) (Int32.toInt64 (I 26 (Int32.toNatClampNeg ((I 24 3) - 1)))) I K
  else
    K 0 I
set_option maxRecDepth 100000 in
theorem s_90 {S : am_S} {d : Nat} {N : Nat} {T : Nat → Nat × Nat} {I : am_I} {L : am_J} {r : Nat → Nat → Option Nat} {Q : am_Q} {x0 : Int32} {K : Int32 → am_I → Prop} (hw : w_90 x0 I K) (hK : ∀ (q : Int32) (I1 : am_I), K q I1 → Q (some (.int q)) (N, am_ts T, I1, L, am_rs r)) : am_E S 90 (d + 0) 0 0 0 [.ref 24, .int x0, am_jk, am_jk, am_jk, am_jk, am_jk, am_jk] [] (N, am_ts T, I, L, am_rs r) Q := by
  unfold w_90 at hw
  try dsimp only at hw
  refine am_E.run [58] 2000 (show (if (2 : Int32) ≤ (I 24 3) then (if ((I 24 3) - 2) < 0 ∨ 32 ≤ Int32.toNatClampNeg ((I 24 3) - 2) then False else (if ((I 24 3) - 1) < 0 ∨ 32 ≤ Int32.toNatClampNeg ((I 24 3) - 1) then False else (if (lg_cmp (Int32.toInt64 (I 26 (Int32.toNatClampNeg ((I 24 3) - 1)))) 0) = 0 then (if x0 = 7 then (((0 : Int32) = 0 ∨ (0 : Int32) = 1) ∧ Q (some (.int 0)) (N, am_ts T, I, L, am_rs r)) else (if x0 = 8 then (((0 : Int32) = 0 ∨ (0 : Int32) = 1) ∧ Q (some (.int 0)) (N, am_ts T, I, L, am_rs r)) else (am_E S 90 (d + 0) 0 0 58 [.ref 24, .int x0, .long (Int32.toInt64 (I 26 (Int32.toNatClampNeg ((I 24 3) - 2)))), am_jk, .long (Int32.toInt64 (I 26 (Int32.toNatClampNeg ((I 24 3) - 1)))), am_jk, am_jk, am_jk] [] (N, am_ts T, I, L, am_rs r) Q))) else (am_E S 90 (d + 0) 0 0 58 [.ref 24, .int x0, .long (Int32.toInt64 (I 26 (Int32.toNatClampNeg ((I 24 3) - 2)))), am_jk, .long (Int32.toInt64 (I 26 (Int32.toNatClampNeg ((I 24 3) - 1)))), am_jk, am_jk, am_jk] [] (N, am_ts T, I, L, am_rs r) Q)))) else (((0 : Int32) = 0 ∨ (0 : Int32) = 1) ∧ Q (some (.int 0)) (N, am_ts T, I, L, am_rs r))) from ?_)
  by_cases hc : (2 : Int32) ≤ (I 24 3)
  · rw [if_pos hc] at hw ⊢
    refine am_ifn hw.1 ?_
    replace hw := hw.2
    refine am_ifn hw.1 ?_
    replace hw := hw.2
    by_cases hc : (lg_cmp (Int32.toInt64 (I 26 (Int32.toNatClampNeg ((I 24 3) - 1)))) 0) = 0
    · rw [if_pos hc] at hw ⊢
      by_cases hc : x0 = 7
      · rw [if_pos hc] at hw ⊢
        exact ⟨Or.inl rfl, hK _ _ hw⟩
      · rw [if_neg hc] at hw ⊢
        by_cases hc : x0 = 8
        · rw [if_pos hc] at hw ⊢
          exact ⟨Or.inl rfl, hK _ _ hw⟩
        · rw [if_neg hc] at hw ⊢
          exact sb_90_58 hw hK
    · rw [if_neg hc] at hw ⊢
      exact sb_90_58 hw hK
  · rw [if_neg hc] at hw ⊢
    exact ⟨Or.inl rfl, hK _ _ hw⟩
/-- KeyKeepers$Machine.turns(I)Z -/
def w_91 (x0 : Int32) (I : am_I) (K : Int32 → am_I → Prop) : Prop :=
  if (1 : Int32) ≤ (I 24 3) then
    ¬ (((I 24 3) - 1) < 0 ∨ 32 ≤ Int32.toNatClampNeg ((I 24 3) - 1)) ∧
    if x0 = 12 then
      ¬ (((I 24 3) - 1) < 0 ∨ 32 ≤ Int32.toNatClampNeg ((I 24 3) - 1)) ∧
      K 0 (am_u I 26 (Int32.toNatClampNeg ((I 24 3) - 1)) (1 - (I 26 (Int32.toNatClampNeg ((I 24 3) - 1)))))
    else
      if x0 = 13 then
        if (I 26 (Int32.toNatClampNeg ((I 24 3) - 1))) = 1 then
          K 1 I
        else
          K 0 (am_u I 24 3 ((I 24 3) - 1))
      else
        if (I 26 (Int32.toNatClampNeg ((I 24 3) - 1))) = 0 then
          K 1 I
        else
          K 0 (am_u I 24 3 ((I 24 3) - 1))
  else
    K 0 I
set_option maxRecDepth 100000 in
theorem s_91 {S : am_S} {d : Nat} {N : Nat} {T : Nat → Nat × Nat} {I : am_I} {L : am_J} {r : Nat → Nat → Option Nat} {Q : am_Q} {x0 : Int32} {K : Int32 → am_I → Prop} (hw : w_91 x0 I K) (hK : ∀ (q : Int32) (I1 : am_I), K q I1 → Q (some (.int q)) (N, am_ts T, I1, L, am_rs r)) : am_E S 91 (d + 0) 0 0 0 [.ref 24, .int x0, am_jk, am_jk] [] (N, am_ts T, I, L, am_rs r) Q := by
  unfold w_91 at hw
  try dsimp only at hw
  refine am_E.run [] 2000 (show (if (1 : Int32) ≤ (I 24 3) then (if ((I 24 3) - 1) < 0 ∨ 32 ≤ Int32.toNatClampNeg ((I 24 3) - 1) then False else (if x0 = 12 then (if ((I 24 3) - 1) < 0 ∨ 32 ≤ Int32.toNatClampNeg ((I 24 3) - 1) then False else (((0 : Int32) = 0 ∨ (0 : Int32) = 1) ∧ Q (some (.int 0)) (N, am_ts T, (am_u I 26 (Int32.toNatClampNeg ((I 24 3) - 1)) (1 - (I 26 (Int32.toNatClampNeg ((I 24 3) - 1))))), L, am_rs r))) else (if x0 = 13 then (if (I 26 (Int32.toNatClampNeg ((I 24 3) - 1))) = 1 then (((1 : Int32) = 0 ∨ (1 : Int32) = 1) ∧ Q (some (.int 1)) (N, am_ts T, I, L, am_rs r)) else (((0 : Int32) = 0 ∨ (0 : Int32) = 1) ∧ Q (some (.int 0)) (N, am_ts T, (am_u I 24 3 ((I 24 3) - 1)), L, am_rs r))) else (if (I 26 (Int32.toNatClampNeg ((I 24 3) - 1))) = 0 then (((1 : Int32) = 0 ∨ (1 : Int32) = 1) ∧ Q (some (.int 1)) (N, am_ts T, I, L, am_rs r)) else (((0 : Int32) = 0 ∨ (0 : Int32) = 1) ∧ Q (some (.int 0)) (N, am_ts T, (am_u I 24 3 ((I 24 3) - 1)), L, am_rs r)))))) else (((0 : Int32) = 0 ∨ (0 : Int32) = 1) ∧ Q (some (.int 0)) (N, am_ts T, I, L, am_rs r))) from ?_)
  by_cases hc : (1 : Int32) ≤ (I 24 3)
  · rw [if_pos hc] at hw ⊢
    refine am_ifn hw.1 ?_
    replace hw := hw.2
    by_cases hc : x0 = 12
    · rw [if_pos hc] at hw ⊢
      refine am_ifn hw.1 ?_
      replace hw := hw.2
      exact ⟨Or.inl rfl, hK _ _ hw⟩
    · rw [if_neg hc] at hw ⊢
      by_cases hc : x0 = 13
      · rw [if_pos hc] at hw ⊢
        by_cases hc : (I 26 (Int32.toNatClampNeg ((I 24 3) - 1))) = 1
        · rw [if_pos hc] at hw ⊢
          exact ⟨Or.inr rfl, hK _ _ hw⟩
        · rw [if_neg hc] at hw ⊢
          exact ⟨Or.inl rfl, hK _ _ hw⟩
      · rw [if_neg hc] at hw ⊢
        by_cases hc : (I 26 (Int32.toNatClampNeg ((I 24 3) - 1))) = 0
        · rw [if_pos hc] at hw ⊢
          exact ⟨Or.inr rfl, hK _ _ hw⟩
        · rw [if_neg hc] at hw ⊢
          exact ⟨Or.inl rfl, hK _ _ hw⟩
  · rw [if_neg hc] at hw ⊢
    exact ⟨Or.inl rfl, hK _ _ hw⟩
