def lw_96_33 : Nat → Int32 → Int32 → Nat → Int32 → (Nat → Nat × Nat) → (Nat → Nat → Option Nat) → am_I → (Int32 → Prop) → (Int32 → Prop) → Prop
  | 0, _, _, _, _, _, _, _, _, _ => False
  | n + 1, v1, v2, v3, v4, T, r, I, E0, R =>
    if (I 1 10) ≤ v4 then
      E0 v4
    else
      ((am_ts T v3).1 = 20) ∧
      ¬ (v4 < 0 ∨ (am_ts T v3).2 ≤ Int32.toNatClampNeg v4) ∧
      ((am_ts T v3).1 = 20) ∧
      ¬ (v1 < 0 ∨ (am_ts T v3).2 ≤ Int32.toNatClampNeg v1) ∧
      if (I v3 (Int32.toNatClampNeg v4)) = (I v3 (Int32.toNatClampNeg v1)) then
        ¬ (v4 < 0 ∨ 8 ≤ Int32.toNatClampNeg v4) ∧
        if (f_20 (I 7 (Int32.toNatClampNeg v4)) v2) = 1 then
          ¬ (v4 < 0 ∨ 8 ≤ Int32.toNatClampNeg v4) ∧
          if (f_20 (I 8 (Int32.toNatClampNeg v4)) v1) = 1 then
            R 1
          else
            lw_96_33 n v1 v2 v3 (v4 + 1) T r I E0 R
        else
          lw_96_33 n v1 v2 v3 (v4 + 1) T r I E0 R
      else
        lw_96_33 n v1 v2 v3 (v4 + 1) T r I E0 R
set_option maxRecDepth 100000 in
theorem sl_96_33 {S : am_S} {d : Nat} {Q : am_Q} {N : Nat} {T : Nat → Nat × Nat} {I : am_I} {L : am_J} {r : Nat → Nat → Option Nat} {E0 : Int32 → Prop} {R : Int32 → Prop} : ∀ (n : Nat) {v1 : Int32} {v2 : Int32} {v3 : Nat} {v4 : Int32}, lw_96_33 n v1 v2 v3 v4 T r I E0 R → (∀ (o4 : Int32), E0 o4 → am_E S 96 (d + 1) 0 0 90 [.ref 1, .int v1, .int v2, .ref v3, .int o4] [] (N, am_ts T, I, L, am_rs r) Q) → (∀ (q : Int32), R q → Q (some (.int q)) (N, am_ts T, I, L, am_rs r)) → am_E S 96 (d + 1) 0 0 33 [.ref 1, .int v1, .int v2, .ref v3, .int v4] [] (N, am_ts T, I, L, am_rs r) Q
  | 0, _, _, _, _, hw, _, _ => hw.elim
  | n + 1, v1, v2, v3, v4, hw, hE0, hR => by
    have ih := @sl_96_33 S d Q N T I L r E0 R n
    unfold lw_96_33 at hw
    try dsimp only at hw
    refine am_E.run [33, 60, 90] 2000 (show (if (I 1 10) ≤ v4 then (am_E S 96 (d + 1) 0 0 90 [.ref 1, .int v1, .int v2, .ref v3, .int v4] [] (N, am_ts T, I, L, am_rs r) Q) else (if (am_ts T v3).1 = 20 then (if v4 < 0 ∨ (am_ts T v3).2 ≤ Int32.toNatClampNeg v4 then False else (if (am_ts T v3).1 = 20 then (if v1 < 0 ∨ (am_ts T v3).2 ≤ Int32.toNatClampNeg v1 then False else (if (I v3 (Int32.toNatClampNeg v4)) = (I v3 (Int32.toNatClampNeg v1)) then (if v4 < 0 ∨ 8 ≤ Int32.toNatClampNeg v4 then False else (am_E S 96 (d + 1) 0 0 60 [.ref 1, .int v1, .int v2, .ref v3, .int v4] [.int v2, .int (I 7 (Int32.toNatClampNeg v4))] (N, am_ts T, I, L, am_rs r) Q)) else (am_E S 96 (d + 1) 0 0 33 [.ref 1, .int v1, .int v2, .ref v3, .int (v4 + 1)] [] (N, am_ts T, I, L, am_rs r) Q))) else False)) else False)) from ?_)
    by_cases hc : (I 1 10) ≤ v4
    · rw [if_pos hc] at hw ⊢
      exact hE0 _ hw
    · rw [if_neg hc] at hw ⊢
      refine am_ifp hw.1 ?_
      replace hw := hw.2
      refine am_ifn hw.1 ?_
      replace hw := hw.2
      refine am_ifp hw.1 ?_
      replace hw := hw.2
      refine am_ifn hw.1 ?_
      replace hw := hw.2
      by_cases hc : (I v3 (Int32.toNatClampNeg v4)) = (I v3 (Int32.toNatClampNeg v1))
      · rw [if_pos hc] at hw ⊢
        refine am_ifn hw.1 ?_
        replace hw := hw.2
        refine am_E.go ⟨fun v h9 => v = some (.int (f_20 (I 7 (Int32.toNatClampNeg v4)) v2)) ∧ h9 = (N, am_ts T, I, L, am_rs r), s_20 ⟨rfl, rfl⟩, ?_⟩
        intro v h9 hv
        obtain ⟨rfl, rfl⟩ := hv
        refine am_E.run [33, 75] 2000 (show (if (f_20 (I 7 (Int32.toNatClampNeg v4)) v2) = 1 then (if v4 < 0 ∨ 8 ≤ Int32.toNatClampNeg v4 then False else (am_E S 96 (d + 1) 0 0 75 [.ref 1, .int v1, .int v2, .ref v3, .int v4] [.int v1, .int (I 8 (Int32.toNatClampNeg v4))] (N, am_ts T, I, L, am_rs r) Q)) else (am_E S 96 (d + 1) 0 0 33 [.ref 1, .int v1, .int v2, .ref v3, .int (v4 + 1)] [] (N, am_ts T, I, L, am_rs r) Q)) from ?_)
        by_cases hc : (f_20 (I 7 (Int32.toNatClampNeg v4)) v2) = 1
        · rw [if_pos hc] at hw ⊢
          refine am_ifn hw.1 ?_
          replace hw := hw.2
          refine am_E.go ⟨fun v h9 => v = some (.int (f_20 (I 8 (Int32.toNatClampNeg v4)) v1)) ∧ h9 = (N, am_ts T, I, L, am_rs r), s_20 ⟨rfl, rfl⟩, ?_⟩
          intro v h9 hv
          obtain ⟨rfl, rfl⟩ := hv
          refine am_E.run [33] 2000 (show (if (f_20 (I 8 (Int32.toNatClampNeg v4)) v1) = 1 then (((1 : Int32) = 0 ∨ (1 : Int32) = 1) ∧ Q (some (.int 1)) (N, am_ts T, I, L, am_rs r)) else (am_E S 96 (d + 1) 0 0 33 [.ref 1, .int v1, .int v2, .ref v3, .int (v4 + 1)] [] (N, am_ts T, I, L, am_rs r) Q)) from ?_)
          by_cases hc : (f_20 (I 8 (Int32.toNatClampNeg v4)) v1) = 1
          · rw [if_pos hc] at hw ⊢
            exact ⟨Or.inr rfl, hR _ hw⟩
          · rw [if_neg hc] at hw ⊢
            exact ih hw hE0 hR
        · rw [if_neg hc] at hw ⊢
          exact ih hw hE0 hR
      · rw [if_neg hc] at hw ⊢
        exact ih hw hE0 hR
/-- KeyKeepers$Prison.unlocks(II[I)Z -/
def w_96 (x0 : Int32) (x1 : Int32) (x2 : Nat) (T : Nat → Nat × Nat) (r : Nat → Nat → Option Nat) (I : am_I) (K : Int32 → Prop) : Prop :=
  if (f_20 (I 1 3) x1) = 1 then
    K 0
  else
    ¬ (x0 < 0 ∨ 8 ≤ Int32.toNatClampNeg x0) ∧
    if (f_20 (I 7 (Int32.toNatClampNeg x0)) x1) = 1 then
      K 1
    else
      ∃ n33, lw_96_33 n33 x0 x1 x2 0 T r I (fun o1 =>
        K 0) K
set_option maxRecDepth 100000 in
theorem s_96 {S : am_S} {d : Nat} {N : Nat} {T : Nat → Nat × Nat} {I : am_I} {L : am_J} {r : Nat → Nat → Option Nat} {Q : am_Q} {x0 : Int32} {x1 : Int32} {x2 : Nat} {K : Int32 → Prop} (hw : w_96 x0 x1 x2 T r I K) (hK : ∀ (q : Int32), K q → Q (some (.int q)) (N, am_ts T, I, L, am_rs r)) : am_E S 96 (d + 1) 0 0 0 [.ref 1, .int x0, .int x1, .ref x2, am_jk] [] (N, am_ts T, I, L, am_rs r) Q := by
  unfold w_96 at hw
  try dsimp only at hw
  refine am_E.run [5] 2000 (show (am_E S 96 (d + 1) 0 0 5 [.ref 1, .int x0, .int x1, .ref x2, am_jk] [.int x1, .int (I 1 3)] (N, am_ts T, I, L, am_rs r) Q) from ?_)
  refine am_E.go ⟨fun v h9 => v = some (.int (f_20 (I 1 3) x1)) ∧ h9 = (N, am_ts T, I, L, am_rs r), s_20 ⟨rfl, rfl⟩, ?_⟩
  intro v h9 hv
  obtain ⟨rfl, rfl⟩ := hv
  refine am_E.run [21] 2000 (show (if (f_20 (I 1 3) x1) = 1 then (((0 : Int32) = 0 ∨ (0 : Int32) = 1) ∧ Q (some (.int 0)) (N, am_ts T, I, L, am_rs r)) else (if x0 < 0 ∨ 8 ≤ Int32.toNatClampNeg x0 then False else (am_E S 96 (d + 1) 0 0 21 [.ref 1, .int x0, .int x1, .ref x2, am_jk] [.int x1, .int (I 7 (Int32.toNatClampNeg x0))] (N, am_ts T, I, L, am_rs r) Q))) from ?_)
  by_cases hc : (f_20 (I 1 3) x1) = 1
  · rw [if_pos hc] at hw ⊢
    exact ⟨Or.inl rfl, hK _ hw⟩
  · rw [if_neg hc] at hw ⊢
    refine am_ifn hw.1 ?_
    replace hw := hw.2
    refine am_E.go ⟨fun v h9 => v = some (.int (f_20 (I 7 (Int32.toNatClampNeg x0)) x1)) ∧ h9 = (N, am_ts T, I, L, am_rs r), s_20 ⟨rfl, rfl⟩, ?_⟩
    intro v h9 hv
    obtain ⟨rfl, rfl⟩ := hv
    refine am_E.run [33] 2000 (show (if (f_20 (I 7 (Int32.toNatClampNeg x0)) x1) = 1 then (((1 : Int32) = 0 ∨ (1 : Int32) = 1) ∧ Q (some (.int 1)) (N, am_ts T, I, L, am_rs r)) else (am_E S 96 (d + 1) 0 0 33 [.ref 1, .int x0, .int x1, .ref x2, .int 0] [] (N, am_ts T, I, L, am_rs r) Q)) from ?_)
    by_cases hc : (f_20 (I 7 (Int32.toNatClampNeg x0)) x1) = 1
    · rw [if_pos hc] at hw ⊢
      exact ⟨Or.inr rfl, hK _ hw⟩
    · rw [if_neg hc] at hw ⊢
      obtain ⟨n33, hw⟩ := hw
      refine sl_96_33 n33 hw (fun o1 hw => ?_) hK
      · try dsimp only at hw
        refine am_E.run [] 2000 (show (((0 : Int32) = 0 ∨ (0 : Int32) = 1) ∧ Q (some (.int 0)) (N, am_ts T, I, L, am_rs r)) from ?_)
        exact ⟨Or.inl rfl, hK _ hw⟩
/-- KeyKeepers$Goings.dropOldest()V -/
def w_98 (T : Nat → Nat × Nat) (r : Nat → Nat → Option Nat) (I : am_I) (K : am_I → Prop) : Prop :=
  ((am_ts T 30).1 = 20 ∧ (am_ts T 30).1 = 20 ∧ ¬ (1 : Int32) < 0 ∧ ¬ (0 : Int32) < 0 ∧ ¬ 15 < 0 ∧ (Int32.toNatClampNeg (1 : Int32)) + (Int32.toNatClampNeg 15) ≤ (am_ts T 30).2 ∧ (Int32.toNatClampNeg (0 : Int32)) + (Int32.toNatClampNeg 15) ≤ (am_ts T 30).2) ∧
  ∃ I1, I1 = (am_ci (am_u I 29 0 15) 30 30 (Int32.toNatClampNeg (1 : Int32)) (Int32.toNatClampNeg (0 : Int32)) (Int32.toNatClampNeg 15)) ∧
  ((am_ts T 31).1 = 20 ∧ (am_ts T 31).1 = 20 ∧ ¬ (1 : Int32) < 0 ∧ ¬ (0 : Int32) < 0 ∧ ¬ (I1 29 0) < 0 ∧ (Int32.toNatClampNeg (1 : Int32)) + (Int32.toNatClampNeg (I1 29 0)) ≤ (am_ts T 31).2 ∧ (Int32.toNatClampNeg (0 : Int32)) + (Int32.toNatClampNeg (I1 29 0)) ≤ (am_ts T 31).2) ∧
  ∃ I2, I2 = (am_ci I1 31 31 (Int32.toNatClampNeg (1 : Int32)) (Int32.toNatClampNeg (0 : Int32)) (Int32.toNatClampNeg (I1 29 0))) ∧
  ((am_ts T 32).1 = 20 ∧ (am_ts T 32).1 = 20 ∧ ¬ (1 : Int32) < 0 ∧ ¬ (0 : Int32) < 0 ∧ ¬ (I2 29 0) < 0 ∧ (Int32.toNatClampNeg (1 : Int32)) + (Int32.toNatClampNeg (I2 29 0)) ≤ (am_ts T 32).2 ∧ (Int32.toNatClampNeg (0 : Int32)) + (Int32.toNatClampNeg (I2 29 0)) ≤ (am_ts T 32).2) ∧
  ∃ I3, I3 = (am_ci I2 32 32 (Int32.toNatClampNeg (1 : Int32)) (Int32.toNatClampNeg (0 : Int32)) (Int32.toNatClampNeg (I2 29 0))) ∧
  ((am_ts T 33).1 = 20 ∧ (am_ts T 33).1 = 20 ∧ ¬ (1 : Int32) < 0 ∧ ¬ (0 : Int32) < 0 ∧ ¬ (I3 29 0) < 0 ∧ (Int32.toNatClampNeg (1 : Int32)) + (Int32.toNatClampNeg (I3 29 0)) ≤ (am_ts T 33).2 ∧ (Int32.toNatClampNeg (0 : Int32)) + (Int32.toNatClampNeg (I3 29 0)) ≤ (am_ts T 33).2) ∧
  ∃ I4, I4 = (am_ci I3 33 33 (Int32.toNatClampNeg (1 : Int32)) (Int32.toNatClampNeg (0 : Int32)) (Int32.toNatClampNeg (I3 29 0))) ∧
  ((am_ts T 34).1 = 20 ∧ (am_ts T 34).1 = 20 ∧ ¬ (1 : Int32) < 0 ∧ ¬ (0 : Int32) < 0 ∧ ¬ (I4 29 0) < 0 ∧ (Int32.toNatClampNeg (1 : Int32)) + (Int32.toNatClampNeg (I4 29 0)) ≤ (am_ts T 34).2 ∧ (Int32.toNatClampNeg (0 : Int32)) + (Int32.toNatClampNeg (I4 29 0)) ≤ (am_ts T 34).2) ∧
  ∃ I5, I5 = (am_ci I4 34 34 (Int32.toNatClampNeg (1 : Int32)) (Int32.toNatClampNeg (0 : Int32)) (Int32.toNatClampNeg (I4 29 0))) ∧
  K I5
set_option maxRecDepth 100000 in
theorem s_98 {S : am_S} {d : Nat} {N : Nat} {T : Nat → Nat × Nat} {I : am_I} {L : am_J} {r : Nat → Nat → Option Nat} {Q : am_Q} {K : am_I → Prop} (hw : w_98 T r I K) (hK : ∀ (I1 : am_I), K I1 → Q (none) (N, am_ts T, I1, L, am_rs r)) : am_E S 98 (d + 1) 0 0 0 [.ref 29] [] (N, am_ts T, I, L, am_rs r) Q := by
  unfold w_98 at hw
  try dsimp only at hw
  refine am_E.run [23] 2000 (show (if (am_ts T 30).1 = 20 ∧ (am_ts T 30).1 = 20 ∧ ¬ (1 : Int32) < 0 ∧ ¬ (0 : Int32) < 0 ∧ ¬ 15 < 0 ∧ (Int32.toNatClampNeg (1 : Int32)) + (Int32.toNatClampNeg 15) ≤ (am_ts T 30).2 ∧ (Int32.toNatClampNeg (0 : Int32)) + (Int32.toNatClampNeg 15) ≤ (am_ts T 30).2 ∧ 0 ≤ 8 then (am_E S 98 (d + 1) 0 0 23 [.ref 29] [] (N, am_ts T, (am_ci (am_u I 29 0 15) 30 30 (Int32.toNatClampNeg (1 : Int32)) (Int32.toNatClampNeg (0 : Int32)) (Int32.toNatClampNeg 15)), L, am_rs r) Q) else False) from ?_)
  refine am_ifp ⟨hw.1.1, hw.1.2.1, hw.1.2.2.1, hw.1.2.2.2.1, hw.1.2.2.2.2.1, hw.1.2.2.2.2.2.1, hw.1.2.2.2.2.2.2, by decide⟩ ?_
  replace hw := hw.2
  obtain ⟨I1, hI, hw⟩ := hw
  rw [← hI]
  refine am_E.run [40] 2000 (show (if (am_ts T 31).1 = 20 ∧ (am_ts T 31).1 = 20 ∧ ¬ (1 : Int32) < 0 ∧ ¬ (0 : Int32) < 0 ∧ ¬ (I1 29 0) < 0 ∧ (Int32.toNatClampNeg (1 : Int32)) + (Int32.toNatClampNeg (I1 29 0)) ≤ (am_ts T 31).2 ∧ (Int32.toNatClampNeg (0 : Int32)) + (Int32.toNatClampNeg (I1 29 0)) ≤ (am_ts T 31).2 ∧ 0 ≤ 8 then (am_E S 98 (d + 1) 0 0 40 [.ref 29] [] (N, am_ts T, (am_ci I1 31 31 (Int32.toNatClampNeg (1 : Int32)) (Int32.toNatClampNeg (0 : Int32)) (Int32.toNatClampNeg (I1 29 0))), L, am_rs r) Q) else False) from ?_)
  refine am_ifp ⟨hw.1.1, hw.1.2.1, hw.1.2.2.1, hw.1.2.2.2.1, hw.1.2.2.2.2.1, hw.1.2.2.2.2.2.1, hw.1.2.2.2.2.2.2, by decide⟩ ?_
  replace hw := hw.2
  obtain ⟨I2, hI, hw⟩ := hw
  rw [← hI]
  refine am_E.run [57] 2000 (show (if (am_ts T 32).1 = 20 ∧ (am_ts T 32).1 = 20 ∧ ¬ (1 : Int32) < 0 ∧ ¬ (0 : Int32) < 0 ∧ ¬ (I2 29 0) < 0 ∧ (Int32.toNatClampNeg (1 : Int32)) + (Int32.toNatClampNeg (I2 29 0)) ≤ (am_ts T 32).2 ∧ (Int32.toNatClampNeg (0 : Int32)) + (Int32.toNatClampNeg (I2 29 0)) ≤ (am_ts T 32).2 ∧ 0 ≤ 8 then (am_E S 98 (d + 1) 0 0 57 [.ref 29] [] (N, am_ts T, (am_ci I2 32 32 (Int32.toNatClampNeg (1 : Int32)) (Int32.toNatClampNeg (0 : Int32)) (Int32.toNatClampNeg (I2 29 0))), L, am_rs r) Q) else False) from ?_)
  refine am_ifp ⟨hw.1.1, hw.1.2.1, hw.1.2.2.1, hw.1.2.2.2.1, hw.1.2.2.2.2.1, hw.1.2.2.2.2.2.1, hw.1.2.2.2.2.2.2, by decide⟩ ?_
  replace hw := hw.2
  obtain ⟨I3, hI, hw⟩ := hw
  rw [← hI]
  refine am_E.run [74] 2000 (show (if (am_ts T 33).1 = 20 ∧ (am_ts T 33).1 = 20 ∧ ¬ (1 : Int32) < 0 ∧ ¬ (0 : Int32) < 0 ∧ ¬ (I3 29 0) < 0 ∧ (Int32.toNatClampNeg (1 : Int32)) + (Int32.toNatClampNeg (I3 29 0)) ≤ (am_ts T 33).2 ∧ (Int32.toNatClampNeg (0 : Int32)) + (Int32.toNatClampNeg (I3 29 0)) ≤ (am_ts T 33).2 ∧ 0 ≤ 8 then (am_E S 98 (d + 1) 0 0 74 [.ref 29] [] (N, am_ts T, (am_ci I3 33 33 (Int32.toNatClampNeg (1 : Int32)) (Int32.toNatClampNeg (0 : Int32)) (Int32.toNatClampNeg (I3 29 0))), L, am_rs r) Q) else False) from ?_)
  refine am_ifp ⟨hw.1.1, hw.1.2.1, hw.1.2.2.1, hw.1.2.2.2.1, hw.1.2.2.2.2.1, hw.1.2.2.2.2.2.1, hw.1.2.2.2.2.2.2, by decide⟩ ?_
  replace hw := hw.2
  obtain ⟨I4, hI, hw⟩ := hw
  rw [← hI]
  refine am_E.run [91] 2000 (show (if (am_ts T 34).1 = 20 ∧ (am_ts T 34).1 = 20 ∧ ¬ (1 : Int32) < 0 ∧ ¬ (0 : Int32) < 0 ∧ ¬ (I4 29 0) < 0 ∧ (Int32.toNatClampNeg (1 : Int32)) + (Int32.toNatClampNeg (I4 29 0)) ≤ (am_ts T 34).2 ∧ (Int32.toNatClampNeg (0 : Int32)) + (Int32.toNatClampNeg (I4 29 0)) ≤ (am_ts T 34).2 ∧ 0 ≤ 8 then (am_E S 98 (d + 1) 0 0 91 [.ref 29] [] (N, am_ts T, (am_ci I4 34 34 (Int32.toNatClampNeg (1 : Int32)) (Int32.toNatClampNeg (0 : Int32)) (Int32.toNatClampNeg (I4 29 0))), L, am_rs r) Q) else False) from ?_)
  refine am_ifp ⟨hw.1.1, hw.1.2.1, hw.1.2.2.1, hw.1.2.2.2.1, hw.1.2.2.2.2.1, hw.1.2.2.2.2.2.1, hw.1.2.2.2.2.2.2, by decide⟩ ?_
  replace hw := hw.2
  obtain ⟨I5, hI, hw⟩ := hw
  rw [← hI]
  refine am_E.run [] 2000 (show (True ∧ Q (none) (N, am_ts T, I5, L, am_rs r)) from ?_)
  exact ⟨trivial, hK _ hw⟩
/-- KeyKeepers$Prison.breadBehind(II)I -/
def f_101 (x0 : Int32) (x1 : Int32) (I : am_I) : Int32 :=
  if x1 = (I 1 10) then
    (if (x0 + (2 * x1)) < (99999 : Int32) then (x0 + (2 * x1)) else (99999 : Int32))
  else
    (if (x0 + x1) < (99999 : Int32) then (x0 + x1) else (99999 : Int32))
set_option maxRecDepth 100000 in
theorem s_101 {S : am_S} {d : Nat} {N : Nat} {T : Nat → Nat × Nat} {I : am_I} {L : am_J} {r : Nat → Nat → Option Nat} {Q : am_Q} {x0 : Int32} {x1 : Int32} (hq : Q (some (.int (f_101 x0 x1 I))) (N, am_ts T, I, L, am_rs r)) : am_E S 101 (d + 1) 0 0 0 [.ref 1, .int x0, .int x1, am_jk] [] (N, am_ts T, I, L, am_rs r) Q := by
  unfold f_101 at hq
  try dsimp only at hq
  refine am_E.run [] 2000 (show (if x1 = (I 1 10) then (True ∧ Q (some (.int (if (x0 + (2 * x1)) < (99999 : Int32) then (x0 + (2 * x1)) else (99999 : Int32)))) (N, am_ts T, I, L, am_rs r)) else (True ∧ Q (some (.int (if (x0 + x1) < (99999 : Int32) then (x0 + x1) else (99999 : Int32)))) (N, am_ts T, I, L, am_rs r))) from ?_)
  by_cases hc : x1 = (I 1 10)
  · rw [if_pos hc] at hq ⊢
    exact ⟨trivial, hq⟩
  · rw [if_neg hc] at hq ⊢
    exact ⟨trivial, hq⟩
/-- KeyKeepers.fault()I -/
def f_103 (I : am_I) : Int32 :=
  (I 14 2)
set_option maxRecDepth 100000 in
theorem s_103 {S : am_S} {d : Nat} {N : Nat} {T : Nat → Nat × Nat} {I : am_I} {L : am_J} {r : Nat → Nat → Option Nat} {Q : am_Q} (hq : Q (some (.int (f_103 I))) (N, am_ts T, I, L, am_rs r)) : am_E S 103 (d + 0) 0 0 0 [.ref 0] [] (N, am_ts T, I, L, am_rs r) Q := by
  unfold f_103 at hq
  try dsimp only at hq
  refine am_E.run [] 2000 (show (True ∧ Q (some (.int (I 14 2))) (N, am_ts T, I, L, am_rs r)) from ?_)
  exact ⟨trivial, hq⟩
/-- KeyKeepers.stopped()I -/
def f_104 (I : am_I) : Int32 :=
  (I 35 1)
set_option maxRecDepth 100000 in
theorem s_104 {S : am_S} {d : Nat} {N : Nat} {T : Nat → Nat × Nat} {I : am_I} {L : am_J} {r : Nat → Nat → Option Nat} {Q : am_Q} (hq : Q (some (.int (f_104 I))) (N, am_ts T, I, L, am_rs r)) : am_E S 104 (d + 0) 0 0 0 [.ref 0] [] (N, am_ts T, I, L, am_rs r) Q := by
  unfold f_104 at hq
  try dsimp only at hq
  refine am_E.run [] 2000 (show (True ∧ Q (some (.int (I 35 1))) (N, am_ts T, I, L, am_rs r)) from ?_)
  exact ⟨trivial, hq⟩
/-- KeyKeepers$Prison.hasLaw(I)Z -/
def f_106 (x0 : Int32) (I : am_I) : Int32 :=
  if x0 < 0 then
    0
  else
    if (I 1 15) ≤ x0 then
      0
    else
      1
set_option maxRecDepth 100000 in
theorem s_106 {S : am_S} {d : Nat} {N : Nat} {T : Nat → Nat × Nat} {I : am_I} {L : am_J} {r : Nat → Nat → Option Nat} {Q : am_Q} {x0 : Int32} (hq : Q (some (.int (f_106 x0 I))) (N, am_ts T, I, L, am_rs r)) : am_E S 106 (d + 0) 0 0 0 [.ref 1, .int x0] [] (N, am_ts T, I, L, am_rs r) Q := by
  unfold f_106 at hq
  try dsimp only at hq
  refine am_E.run [] 2000 (show (if x0 < 0 then (((0 : Int32) = 0 ∨ (0 : Int32) = 1) ∧ Q (some (.int 0)) (N, am_ts T, I, L, am_rs r)) else (if (I 1 15) ≤ x0 then (((0 : Int32) = 0 ∨ (0 : Int32) = 1) ∧ Q (some (.int 0)) (N, am_ts T, I, L, am_rs r)) else (((1 : Int32) = 0 ∨ (1 : Int32) = 1) ∧ Q (some (.int 1)) (N, am_ts T, I, L, am_rs r)))) from ?_)
  by_cases hc : x0 < 0
  · rw [if_pos hc] at hq ⊢
    exact ⟨Or.inl rfl, hq⟩
  · rw [if_neg hc] at hq ⊢
    by_cases hc : (I 1 15) ≤ x0
    · rw [if_pos hc] at hq ⊢
      exact ⟨Or.inl rfl, hq⟩
    · rw [if_neg hc] at hq ⊢
      exact ⟨Or.inr rfl, hq⟩
theorem b_106 {x0 : Int32} {I : am_I} : (f_106 x0 I) = 0 ∨ (f_106 x0 I) = 1 := by
  unfold f_106
  (repeat' split) <;> first | exact Or.inl rfl | exact Or.inr rfl
/-- KeyKeepers$Prison.lawOf(I)LKeyKeepers$Text; -/
def w_108 (x0 : Int32) (T : Nat → Nat × Nat) (r : Nat → Nat → Option Nat) (I : am_I) (K : Option Nat → Prop) : Prop :=
  if (f_106 x0 I) = 0 then
    K none
  else
    ¬ (x0 < 0 ∨ 6 ≤ Int32.toNatClampNeg x0) ∧
    ((am_rs r 11 (Int32.toNatClampNeg x0)) = none →
      K none) ∧ ∀ t1, (am_rs r 11 (Int32.toNatClampNeg x0)) = some t1 →
      K (some t1)
set_option maxRecDepth 100000 in
theorem s_108 {S : am_S} {d : Nat} {N : Nat} {T : Nat → Nat × Nat} {I : am_I} {L : am_J} {r : Nat → Nat → Option Nat} {Q : am_Q} {x0 : Int32} {K : Option Nat → Prop} (hw : w_108 x0 T r I K) (hK : ∀ (q : Option Nat), K q → Q (some (am_rv q)) (N, am_ts T, I, L, am_rs r)) : am_E S 108 (d + 1) 0 0 0 [.ref 1, .int x0] [] (N, am_ts T, I, L, am_rs r) Q := by
  unfold w_108 at hw
  try dsimp only at hw
  refine am_E.run [2] 2000 (show (am_E S 108 (d + 1) 0 0 2 [.ref 1, .int x0] [.int x0, .ref 1] (N, am_ts T, I, L, am_rs r) Q) from ?_)
  refine am_E.go ⟨fun v h9 => v = some (.int (f_106 x0 I)) ∧ h9 = (N, am_ts T, I, L, am_rs r), s_106 ⟨rfl, rfl⟩, ?_⟩
  intro v h9 hv
  obtain ⟨rfl, rfl⟩ := hv
  refine am_E.run [14, 18] 2000 (show (if (f_106 x0 I) = 0 then (am_E S 108 (d + 1) 0 0 18 [.ref 1, .int x0] [.null] (N, am_ts T, I, L, am_rs r) Q) else (if x0 < 0 ∨ 6 ≤ Int32.toNatClampNeg x0 then False else (am_E S 108 (d + 1) 0 0 14 [.ref 1, .int x0] [am_rv (am_rs r 11 (Int32.toNatClampNeg x0))] (N, am_ts T, I, L, am_rs r) Q))) from ?_)
  by_cases hc : (f_106 x0 I) = 0
  · rw [if_pos hc] at hw ⊢
    refine am_E.run [] 2000 (show (True ∧ Q (some (.null)) (N, am_ts T, I, L, am_rs r)) from ?_)
    exact ⟨trivial, hK _ hw⟩
  · rw [if_neg hc] at hw ⊢
    refine am_ifn hw.1 ?_
    replace hw := hw.2
    cases hx : (am_rs r 11 (Int32.toNatClampNeg x0)) with
    | none =>
      replace hw := hw.1 hx
      refine am_E.run [18] 2000 (show (am_E S 108 (d + 1) 0 0 18 [.ref 1, .int x0] [.null] (N, am_ts T, I, L, am_rs r) Q) from ?_)
      refine am_E.run [] 2000 (show (True ∧ Q (some (.null)) (N, am_ts T, I, L, am_rs r)) from ?_)
      exact ⟨trivial, hK _ hw⟩
    | some t1 =>
      replace hw := hw.2 t1 hx
      refine am_E.run [18] 2000 (show (am_E S 108 (d + 1) 0 0 18 [.ref 1, .int x0] [.ref t1] (N, am_ts T, I, L, am_rs r) Q) from ?_)
      refine am_E.run [] 2000 (show (True ∧ Q (some (.ref t1)) (N, am_ts T, I, L, am_rs r)) from ?_)
      exact ⟨trivial, hK _ hw⟩
/-- java/lang/Integer.bitCount(I)I -/
def f_111 (x0 : Int32) : Int32 :=
  ((((((((x0 - ((UInt32.toInt32 (Int32.toUInt32 x0 >>> (Int32.toUInt32 1 &&& Int32.toUInt32 31))) &&& 1431655765)) &&& 858993459) + ((UInt32.toInt32 (Int32.toUInt32 (x0 - ((UInt32.toInt32 (Int32.toUInt32 x0 >>> (Int32.toUInt32 1 &&& Int32.toUInt32 31))) &&& 1431655765)) >>> (Int32.toUInt32 2 &&& Int32.toUInt32 31))) &&& 858993459)) + (UInt32.toInt32 (Int32.toUInt32 (((x0 - ((UInt32.toInt32 (Int32.toUInt32 x0 >>> (Int32.toUInt32 1 &&& Int32.toUInt32 31))) &&& 1431655765)) &&& 858993459) + ((UInt32.toInt32 (Int32.toUInt32 (x0 - ((UInt32.toInt32 (Int32.toUInt32 x0 >>> (Int32.toUInt32 1 &&& Int32.toUInt32 31))) &&& 1431655765)) >>> (Int32.toUInt32 2 &&& Int32.toUInt32 31))) &&& 858993459)) >>> (Int32.toUInt32 4 &&& Int32.toUInt32 31)))) &&& 252645135) + (UInt32.toInt32 (Int32.toUInt32 (((((x0 - ((UInt32.toInt32 (Int32.toUInt32 x0 >>> (Int32.toUInt32 1 &&& Int32.toUInt32 31))) &&& 1431655765)) &&& 858993459) + ((UInt32.toInt32 (Int32.toUInt32 (x0 - ((UInt32.toInt32 (Int32.toUInt32 x0 >>> (Int32.toUInt32 1 &&& Int32.toUInt32 31))) &&& 1431655765)) >>> (Int32.toUInt32 2 &&& Int32.toUInt32 31))) &&& 858993459)) + (UInt32.toInt32 (Int32.toUInt32 (((x0 - ((UInt32.toInt32 (Int32.toUInt32 x0 >>> (Int32.toUInt32 1 &&& Int32.toUInt32 31))) &&& 1431655765)) &&& 858993459) + ((UInt32.toInt32 (Int32.toUInt32 (x0 - ((UInt32.toInt32 (Int32.toUInt32 x0 >>> (Int32.toUInt32 1 &&& Int32.toUInt32 31))) &&& 1431655765)) >>> (Int32.toUInt32 2 &&& Int32.toUInt32 31))) &&& 858993459)) >>> (Int32.toUInt32 4 &&& Int32.toUInt32 31)))) &&& 252645135) >>> (Int32.toUInt32 8 &&& Int32.toUInt32 31)))) + (UInt32.toInt32 (Int32.toUInt32 ((((((x0 - ((UInt32.toInt32 (Int32.toUInt32 x0 >>> (Int32.toUInt32 1 &&& Int32.toUInt32 31))) &&& 1431655765)) &&& 858993459) + ((UInt32.toInt32 (Int32.toUInt32 (x0 - ((UInt32.toInt32 (Int32.toUInt32 x0 >>> (Int32.toUInt32 1 &&& Int32.toUInt32 31))) &&& 1431655765)) >>> (Int32.toUInt32 2 &&& Int32.toUInt32 31))) &&& 858993459)) + (UInt32.toInt32 (Int32.toUInt32 (((x0 - ((UInt32.toInt32 (Int32.toUInt32 x0 >>> (Int32.toUInt32 1 &&& Int32.toUInt32 31))) &&& 1431655765)) &&& 858993459) + ((UInt32.toInt32 (Int32.toUInt32 (x0 - ((UInt32.toInt32 (Int32.toUInt32 x0 >>> (Int32.toUInt32 1 &&& Int32.toUInt32 31))) &&& 1431655765)) >>> (Int32.toUInt32 2 &&& Int32.toUInt32 31))) &&& 858993459)) >>> (Int32.toUInt32 4 &&& Int32.toUInt32 31)))) &&& 252645135) + (UInt32.toInt32 (Int32.toUInt32 (((((x0 - ((UInt32.toInt32 (Int32.toUInt32 x0 >>> (Int32.toUInt32 1 &&& Int32.toUInt32 31))) &&& 1431655765)) &&& 858993459) + ((UInt32.toInt32 (Int32.toUInt32 (x0 - ((UInt32.toInt32 (Int32.toUInt32 x0 >>> (Int32.toUInt32 1 &&& Int32.toUInt32 31))) &&& 1431655765)) >>> (Int32.toUInt32 2 &&& Int32.toUInt32 31))) &&& 858993459)) + (UInt32.toInt32 (Int32.toUInt32 (((x0 - ((UInt32.toInt32 (Int32.toUInt32 x0 >>> (Int32.toUInt32 1 &&& Int32.toUInt32 31))) &&& 1431655765)) &&& 858993459) + ((UInt32.toInt32 (Int32.toUInt32 (x0 - ((UInt32.toInt32 (Int32.toUInt32 x0 >>> (Int32.toUInt32 1 &&& Int32.toUInt32 31))) &&& 1431655765)) >>> (Int32.toUInt32 2 &&& Int32.toUInt32 31))) &&& 858993459)) >>> (Int32.toUInt32 4 &&& Int32.toUInt32 31)))) &&& 252645135) >>> (Int32.toUInt32 8 &&& Int32.toUInt32 31)))) >>> (Int32.toUInt32 16 &&& Int32.toUInt32 31)))) &&& 63)
set_option maxRecDepth 100000 in
theorem s_111 {S : am_S} {d : Nat} {N : Nat} {T : Nat → Nat × Nat} {I : am_I} {L : am_J} {r : Nat → Nat → Option Nat} {Q : am_Q} {x0 : Int32} (hq : Q (some (.int (f_111 x0))) (N, am_ts T, I, L, am_rs r)) : am_E S 111 (d + 0) 0 0 0 [.int x0] [] (N, am_ts T, I, L, am_rs r) Q := by
  unfold f_111 at hq
  try dsimp only at hq
  refine am_E.run [] 2000 (show (True ∧ Q (some (.int ((((((((x0 - ((UInt32.toInt32 (Int32.toUInt32 x0 >>> (Int32.toUInt32 1 &&& Int32.toUInt32 31))) &&& 1431655765)) &&& 858993459) + ((UInt32.toInt32 (Int32.toUInt32 (x0 - ((UInt32.toInt32 (Int32.toUInt32 x0 >>> (Int32.toUInt32 1 &&& Int32.toUInt32 31))) &&& 1431655765)) >>> (Int32.toUInt32 2 &&& Int32.toUInt32 31))) &&& 858993459)) + (UInt32.toInt32 (Int32.toUInt32 (((x0 - ((UInt32.toInt32 (Int32.toUInt32 x0 >>> (Int32.toUInt32 1 &&& Int32.toUInt32 31))) &&& 1431655765)) &&& 858993459) + ((UInt32.toInt32 (Int32.toUInt32 (x0 - ((UInt32.toInt32 (Int32.toUInt32 x0 >>> (Int32.toUInt32 1 &&& Int32.toUInt32 31))) &&& 1431655765)) >>> (Int32.toUInt32 2 &&& Int32.toUInt32 31))) &&& 858993459)) >>> (Int32.toUInt32 4 &&& Int32.toUInt32 31)))) &&& 252645135) + (UInt32.toInt32 (Int32.toUInt32 (((((x0 - ((UInt32.toInt32 (Int32.toUInt32 x0 >>> (Int32.toUInt32 1 &&& Int32.toUInt32 31))) &&& 1431655765)) &&& 858993459) + ((UInt32.toInt32 (Int32.toUInt32 (x0 - ((UInt32.toInt32 (Int32.toUInt32 x0 >>> (Int32.toUInt32 1 &&& Int32.toUInt32 31))) &&& 1431655765)) >>> (Int32.toUInt32 2 &&& Int32.toUInt32 31))) &&& 858993459)) + (UInt32.toInt32 (Int32.toUInt32 (((x0 - ((UInt32.toInt32 (Int32.toUInt32 x0 >>> (Int32.toUInt32 1 &&& Int32.toUInt32 31))) &&& 1431655765)) &&& 858993459) + ((UInt32.toInt32 (Int32.toUInt32 (x0 - ((UInt32.toInt32 (Int32.toUInt32 x0 >>> (Int32.toUInt32 1 &&& Int32.toUInt32 31))) &&& 1431655765)) >>> (Int32.toUInt32 2 &&& Int32.toUInt32 31))) &&& 858993459)) >>> (Int32.toUInt32 4 &&& Int32.toUInt32 31)))) &&& 252645135) >>> (Int32.toUInt32 8 &&& Int32.toUInt32 31)))) + (UInt32.toInt32 (Int32.toUInt32 ((((((x0 - ((UInt32.toInt32 (Int32.toUInt32 x0 >>> (Int32.toUInt32 1 &&& Int32.toUInt32 31))) &&& 1431655765)) &&& 858993459) + ((UInt32.toInt32 (Int32.toUInt32 (x0 - ((UInt32.toInt32 (Int32.toUInt32 x0 >>> (Int32.toUInt32 1 &&& Int32.toUInt32 31))) &&& 1431655765)) >>> (Int32.toUInt32 2 &&& Int32.toUInt32 31))) &&& 858993459)) + (UInt32.toInt32 (Int32.toUInt32 (((x0 - ((UInt32.toInt32 (Int32.toUInt32 x0 >>> (Int32.toUInt32 1 &&& Int32.toUInt32 31))) &&& 1431655765)) &&& 858993459) + ((UInt32.toInt32 (Int32.toUInt32 (x0 - ((UInt32.toInt32 (Int32.toUInt32 x0 >>> (Int32.toUInt32 1 &&& Int32.toUInt32 31))) &&& 1431655765)) >>> (Int32.toUInt32 2 &&& Int32.toUInt32 31))) &&& 858993459)) >>> (Int32.toUInt32 4 &&& Int32.toUInt32 31)))) &&& 252645135) + (UInt32.toInt32 (Int32.toUInt32 (((((x0 - ((UInt32.toInt32 (Int32.toUInt32 x0 >>> (Int32.toUInt32 1 &&& Int32.toUInt32 31))) &&& 1431655765)) &&& 858993459) + ((UInt32.toInt32 (Int32.toUInt32 (x0 - ((UInt32.toInt32 (Int32.toUInt32 x0 >>> (Int32.toUInt32 1 &&& Int32.toUInt32 31))) &&& 1431655765)) >>> (Int32.toUInt32 2 &&& Int32.toUInt32 31))) &&& 858993459)) + (UInt32.toInt32 (Int32.toUInt32 (((x0 - ((UInt32.toInt32 (Int32.toUInt32 x0 >>> (Int32.toUInt32 1 &&& Int32.toUInt32 31))) &&& 1431655765)) &&& 858993459) + ((UInt32.toInt32 (Int32.toUInt32 (x0 - ((UInt32.toInt32 (Int32.toUInt32 x0 >>> (Int32.toUInt32 1 &&& Int32.toUInt32 31))) &&& 1431655765)) >>> (Int32.toUInt32 2 &&& Int32.toUInt32 31))) &&& 858993459)) >>> (Int32.toUInt32 4 &&& Int32.toUInt32 31)))) &&& 252645135) >>> (Int32.toUInt32 8 &&& Int32.toUInt32 31)))) >>> (Int32.toUInt32 16 &&& Int32.toUInt32 31)))) &&& 63))) (N, am_ts T, I, L, am_rs r)) from ?_)
  exact ⟨trivial, hq⟩
/-- KeyKeepers$Judge.told(LKeyKeepers$Prison;LKeyKeepers$Text;II)I -/
def f_112n (x2 : Int32) (x3 : Int32) : Int32 :=
  x3
set_option maxRecDepth 100000 in
theorem s_112n {S : am_S} {d : Nat} {N : Nat} {T : Nat → Nat × Nat} {I : am_I} {L : am_J} {r : Nat → Nat → Option Nat} {Q : am_Q} {x2 : Int32} {x3 : Int32} (hq : Q (some (.int (f_112n x2 x3))) (N, am_ts T, I, L, am_rs r)) : am_E S 112 (d + 0) 0 0 0 [.ref 23, .ref 1, .null, .int x2, .int x3, am_jk] [] (N, am_ts T, I, L, am_rs r) Q := by
  unfold f_112n at hq
  try dsimp only at hq
  refine am_E.run [] 2000 (show (True ∧ Q (some (.int x3)) (N, am_ts T, I, L, am_rs r)) from ?_)
  exact ⟨trivial, hq⟩
/-- KeyKeepers.settleOrRefuse(I)I -/
def w_118 (x0 : Int32) (I : am_I) (K : Int32 → am_I → Prop) : Prop :=
  if (0 : Int32) ≤ x0 then
    w_16 x0 I (fun q1 I2 =>
      K q1 I2)
  else
    w_14 x0 I (fun q3 I4 =>
      K q3 I4)
set_option maxRecDepth 100000 in
theorem s_118 {S : am_S} {d : Nat} {N : Nat} {T : Nat → Nat × Nat} {I : am_I} {L : am_J} {r : Nat → Nat → Option Nat} {Q : am_Q} {x0 : Int32} {K : Int32 → am_I → Prop} (hw : w_118 x0 I K) (hK : ∀ (q : Int32) (I1 : am_I), K q I1 → Q (some (.int q)) (N, am_ts T, I1, L, am_rs r)) : am_E S 118 (d + 1) 0 0 0 [.ref 0, .int x0] [] (N, am_ts T, I, L, am_rs r) Q := by
  unfold w_118 at hw
  try dsimp only at hw
  refine am_E.run [6, 14] 2000 (show (if (0 : Int32) ≤ x0 then (am_E S 118 (d + 1) 0 0 14 [.ref 0, .int x0] [.int x0, .ref 0] (N, am_ts T, I, L, am_rs r) Q) else (am_E S 118 (d + 1) 0 0 6 [.ref 0, .int x0] [.int x0, .ref 0] (N, am_ts T, I, L, am_rs r) Q)) from ?_)
  by_cases hc : (0 : Int32) ≤ x0
  · rw [if_pos hc] at hw ⊢
    refine am_E.go ⟨am_ki_I N T L r _, s_16 hw (fun q1 I2 hk => ⟨q1, I2, rfl, rfl, hk⟩), ?_⟩
    intro v h9 hv
    obtain ⟨q1, I2, rfl, rfl, hw⟩ := hv
    try dsimp only at hw
    refine am_E.run [] 2000 (show (True ∧ Q (some (.int q1)) (N, am_ts T, I2, L, am_rs r)) from ?_)
    exact ⟨trivial, hK _ _ hw⟩
  · rw [if_neg hc] at hw ⊢
    refine am_E.go ⟨am_ki_I N T L r _, s_14 hw (fun q3 I4 hk => ⟨q3, I4, rfl, rfl, hk⟩), ?_⟩
    intro v h9 hv
    obtain ⟨q3, I4, rfl, rfl, hw⟩ := hv
    try dsimp only at hw
    refine am_E.run [] 2000 (show (True ∧ Q (some (.int q3)) (N, am_ts T, I4, L, am_rs r)) from ?_)
    exact ⟨trivial, hK _ _ hw⟩
/-- KeyKeepers$Goings.takeBack(LKeyKeepers$Prison;)I -/
def w_123 (I : am_I) (K : Int32 → am_I → Prop) : Prop :=
  if (0 : Int32) < (I 29 0) then
    ¬ (((I 29 0) - 1) < 0 ∨ 16 ≤ Int32.toNatClampNeg ((I 29 0) - 1)) ∧
    ¬ (((I 29 0) - 1) < 0 ∨ 16 ≤ Int32.toNatClampNeg ((I 29 0) - 1)) ∧
    ¬ (((I 29 0) - 1) < 0 ∨ 16 ≤ Int32.toNatClampNeg ((I 29 0) - 1)) ∧
    if (I 30 (Int32.toNatClampNeg ((I 29 0) - 1))) = 0 then
      ¬ (((I 29 0) - 1) < 0 ∨ 16 ≤ Int32.toNatClampNeg ((I 29 0) - 1)) ∧
      ¬ ((I 31 (Int32.toNatClampNeg ((I 29 0) - 1))) < 0 ∨ 8 ≤ Int32.toNatClampNeg (I 31 (Int32.toNatClampNeg ((I 29 0) - 1)))) ∧
      ¬ (((I 29 0) - 1) < 0 ∨ 16 ≤ Int32.toNatClampNeg ((I 29 0) - 1)) ∧
      K (I 30 (Int32.toNatClampNeg ((I 29 0) - 1))) (am_u (am_u I 29 0 ((I 29 0) - 1)) 6 (Int32.toNatClampNeg (I 31 (Int32.toNatClampNeg ((I 29 0) - 1)))) (I 32 (Int32.toNatClampNeg ((I 29 0) - 1))))
    else
    if (I 30 (Int32.toNatClampNeg ((I 29 0) - 1))) = 1 then
      ¬ (((I 29 0) - 1) < 0 ∨ 16 ≤ Int32.toNatClampNeg ((I 29 0) - 1)) ∧
      ¬ ((I 31 (Int32.toNatClampNeg ((I 29 0) - 1))) < 0 ∨ 8 ≤ Int32.toNatClampNeg (I 31 (Int32.toNatClampNeg ((I 29 0) - 1)))) ∧
      ¬ (((I 29 0) - 1) < 0 ∨ 16 ≤ Int32.toNatClampNeg ((I 29 0) - 1)) ∧
      ¬ ((I 33 (Int32.toNatClampNeg ((I 29 0) - 1))) < 0 ∨ 8 ≤ Int32.toNatClampNeg (I 33 (Int32.toNatClampNeg ((I 29 0) - 1)))) ∧
      ¬ (((I 29 0) - 1) < 0 ∨ 16 ≤ Int32.toNatClampNeg ((I 29 0) - 1)) ∧
      K (I 30 (Int32.toNatClampNeg ((I 29 0) - 1))) (am_u (am_u (am_u I 29 0 ((I 29 0) - 1)) 7 (Int32.toNatClampNeg (I 31 (Int32.toNatClampNeg ((I 29 0) - 1)))) (I 32 (Int32.toNatClampNeg ((I 29 0) - 1)))) 7 (Int32.toNatClampNeg (I 33 (Int32.toNatClampNeg ((I 29 0) - 1)))) (I 34 (Int32.toNatClampNeg ((I 29 0) - 1))))
    else
    if (I 30 (Int32.toNatClampNeg ((I 29 0) - 1))) = 2 then
      ¬ (((I 29 0) - 1) < 0 ∨ 16 ≤ Int32.toNatClampNeg ((I 29 0) - 1)) ∧
      ¬ (((I 29 0) - 1) < 0 ∨ 16 ≤ Int32.toNatClampNeg ((I 29 0) - 1)) ∧
      K (I 30 (Int32.toNatClampNeg ((I 29 0) - 1))) (am_u (am_u I 29 0 ((I 29 0) - 1)) 1 18 (I 32 (Int32.toNatClampNeg ((I 29 0) - 1))))
    else
    ¬ (((I 29 0) - 1) < 0 ∨ 16 ≤ Int32.toNatClampNeg ((I 29 0) - 1)) ∧
    ¬ (((I 29 0) - 1) < 0 ∨ 16 ≤ Int32.toNatClampNeg ((I 29 0) - 1)) ∧
    K (I 30 (Int32.toNatClampNeg ((I 29 0) - 1))) (am_u (am_u I 29 0 ((I 29 0) - 1)) 12 0 (I 32 (Int32.toNatClampNeg ((I 29 0) - 1))))
  else
    K (-3) I
set_option maxRecDepth 100000 in
theorem s_123 {S : am_S} {d : Nat} {N : Nat} {T : Nat → Nat × Nat} {I : am_I} {L : am_J} {r : Nat → Nat → Option Nat} {Q : am_Q} {K : Int32 → am_I → Prop} (hw : w_123 I K) (hK : ∀ (q : Int32) (I1 : am_I), K q I1 → Q (some (.int q)) (N, am_ts T, I1, L, am_rs r)) : am_E S 123 (d + 0) 0 0 0 [.ref 29, .ref 1, am_jk, am_jk] [] (N, am_ts T, I, L, am_rs r) Q := by
  unfold w_123 at hw
  try dsimp only at hw
  refine am_E.run [49] 2000 (show (if (0 : Int32) < (I 29 0) then (if ((I 29 0) - 1) < 0 ∨ 16 ≤ Int32.toNatClampNeg ((I 29 0) - 1) then False else (if ((I 29 0) - 1) < 0 ∨ 16 ≤ Int32.toNatClampNeg ((I 29 0) - 1) then False else (if ((I 29 0) - 1) < 0 ∨ 16 ≤ Int32.toNatClampNeg ((I 29 0) - 1) then False else (am_E S 123 (d + 0) 0 0 49 [.ref 29, .ref 1, .int (I 31 (Int32.toNatClampNeg ((I 29 0) - 1))), .int (I 33 (Int32.toNatClampNeg ((I 29 0) - 1)))] [.int (I 30 (Int32.toNatClampNeg ((I 29 0) - 1)))] (N, am_ts T, (am_u I 29 0 ((I 29 0) - 1)), L, am_rs r) Q)))) else (True ∧ Q (some (.int (-3))) (N, am_ts T, I, L, am_rs r))) from ?_)
  by_cases hc : (0 : Int32) < (I 29 0)
  · rw [if_pos hc] at hw ⊢
    refine am_ifn hw.1 ?_
    replace hw := hw.2
    refine am_ifn hw.1 ?_
    replace hw := hw.2
    refine am_ifn hw.1 ?_
    replace hw := hw.2
    by_cases hc0 : (I 30 (Int32.toNatClampNeg ((I 29 0) - 1))) = 0
    · rw [if_pos hc0] at hw
      refine am_E.swap (k := 0) hc0 ?_
      refine am_E.go (show (am_E S 123 (d + 0) 0 0 76 [.ref 29, .ref 1, .int (I 31 (Int32.toNatClampNeg ((I 29 0) - 1))), .int (I 33 (Int32.toNatClampNeg ((I 29 0) - 1)))] [] (N, am_ts T, (am_u I 29 0 ((I 29 0) - 1)), L, am_rs r) Q) from ?_)
      refine am_E.run [] 2000 (show (if ((I 29 0) - 1) < 0 ∨ 16 ≤ Int32.toNatClampNeg ((I 29 0) - 1) then False else (if (I 31 (Int32.toNatClampNeg ((I 29 0) - 1))) < 0 ∨ 8 ≤ Int32.toNatClampNeg (I 31 (Int32.toNatClampNeg ((I 29 0) - 1))) then False else (if ((I 29 0) - 1) < 0 ∨ 16 ≤ Int32.toNatClampNeg ((I 29 0) - 1) then False else (True ∧ Q (some (.int (I 30 (Int32.toNatClampNeg ((I 29 0) - 1))))) (N, am_ts T, (am_u (am_u I 29 0 ((I 29 0) - 1)) 6 (Int32.toNatClampNeg (I 31 (Int32.toNatClampNeg ((I 29 0) - 1)))) (I 32 (Int32.toNatClampNeg ((I 29 0) - 1)))), L, am_rs r))))) from ?_)
      refine am_ifn hw.1 ?_
      replace hw := hw.2
      refine am_ifn hw.1 ?_
      replace hw := hw.2
      refine am_ifn hw.1 ?_
      replace hw := hw.2
      exact ⟨trivial, hK _ _ hw⟩
    rw [if_neg hc0] at hw
    by_cases hc1 : (I 30 (Int32.toNatClampNeg ((I 29 0) - 1))) = 1
    · rw [if_pos hc1] at hw
      refine am_E.swap (k := 1) hc1 ?_
      refine am_E.go (show (am_E S 123 (d + 0) 0 0 94 [.ref 29, .ref 1, .int (I 31 (Int32.toNatClampNeg ((I 29 0) - 1))), .int (I 33 (Int32.toNatClampNeg ((I 29 0) - 1)))] [] (N, am_ts T, (am_u I 29 0 ((I 29 0) - 1)), L, am_rs r) Q) from ?_)
      refine am_E.run [] 2000 (show (if ((I 29 0) - 1) < 0 ∨ 16 ≤ Int32.toNatClampNeg ((I 29 0) - 1) then False else (if (I 31 (Int32.toNatClampNeg ((I 29 0) - 1))) < 0 ∨ 8 ≤ Int32.toNatClampNeg (I 31 (Int32.toNatClampNeg ((I 29 0) - 1))) then False else (if ((I 29 0) - 1) < 0 ∨ 16 ≤ Int32.toNatClampNeg ((I 29 0) - 1) then False else (if (I 33 (Int32.toNatClampNeg ((I 29 0) - 1))) < 0 ∨ 8 ≤ Int32.toNatClampNeg (I 33 (Int32.toNatClampNeg ((I 29 0) - 1))) then False else (if ((I 29 0) - 1) < 0 ∨ 16 ≤ Int32.toNatClampNeg ((I 29 0) - 1) then False else (True ∧ Q (some (.int (I 30 (Int32.toNatClampNeg ((I 29 0) - 1))))) (N, am_ts T, (am_u (am_u (am_u I 29 0 ((I 29 0) - 1)) 7 (Int32.toNatClampNeg (I 31 (Int32.toNatClampNeg ((I 29 0) - 1)))) (I 32 (Int32.toNatClampNeg ((I 29 0) - 1)))) 7 (Int32.toNatClampNeg (I 33 (Int32.toNatClampNeg ((I 29 0) - 1)))) (I 34 (Int32.toNatClampNeg ((I 29 0) - 1)))), L, am_rs r))))))) from ?_)
      refine am_ifn hw.1 ?_
      replace hw := hw.2
      refine am_ifn hw.1 ?_
      replace hw := hw.2
      refine am_ifn hw.1 ?_
      replace hw := hw.2
      refine am_ifn hw.1 ?_
      replace hw := hw.2
      refine am_ifn hw.1 ?_
      replace hw := hw.2
      exact ⟨trivial, hK _ _ hw⟩
    rw [if_neg hc1] at hw
    by_cases hc2 : (I 30 (Int32.toNatClampNeg ((I 29 0) - 1))) = 2
    · rw [if_pos hc2] at hw
      refine am_E.swap (k := 2) hc2 ?_
      refine am_E.go (show (am_E S 123 (d + 0) 0 0 127 [.ref 29, .ref 1, .int (I 31 (Int32.toNatClampNeg ((I 29 0) - 1))), .int (I 33 (Int32.toNatClampNeg ((I 29 0) - 1)))] [] (N, am_ts T, (am_u I 29 0 ((I 29 0) - 1)), L, am_rs r) Q) from ?_)
      refine am_E.run [] 2000 (show (if ((I 29 0) - 1) < 0 ∨ 16 ≤ Int32.toNatClampNeg ((I 29 0) - 1) then False else (if ((I 29 0) - 1) < 0 ∨ 16 ≤ Int32.toNatClampNeg ((I 29 0) - 1) then False else (True ∧ Q (some (.int (I 30 (Int32.toNatClampNeg ((I 29 0) - 1))))) (N, am_ts T, (am_u (am_u I 29 0 ((I 29 0) - 1)) 1 18 (I 32 (Int32.toNatClampNeg ((I 29 0) - 1)))), L, am_rs r)))) from ?_)
      refine am_ifn hw.1 ?_
      replace hw := hw.2
      refine am_ifn hw.1 ?_
      replace hw := hw.2
      exact ⟨trivial, hK _ _ hw⟩
    rw [if_neg hc2] at hw
    have hd : ((I 30 (Int32.toNatClampNeg ((I 29 0) - 1)))).toInt < 0 ∨ 2 < ((I 30 (Int32.toNatClampNeg ((I 29 0) - 1)))).toInt := by
      have g0 := am_ine hc0
      have g1 := am_ine hc1
      have g2 := am_ine hc2
      change ((I 30 (Int32.toNatClampNeg ((I 29 0) - 1)))).toInt ≠ 0 at g0
      change ((I 30 (Int32.toNatClampNeg ((I 29 0) - 1)))).toInt ≠ 1 at g1
      change ((I 30 (Int32.toNatClampNeg ((I 29 0) - 1)))).toInt ≠ 2 at g2
      omega
    refine am_E.go (show (if ((I 30 (Int32.toNatClampNeg ((I 29 0) - 1)))).toInt < 0 ∨ 2 < ((I 30 (Int32.toNatClampNeg ((I 29 0) - 1)))).toInt then (am_E S 123 (d + 0) 0 0 143 [.ref 29, .ref 1, .int (I 31 (Int32.toNatClampNeg ((I 29 0) - 1))), .int (I 33 (Int32.toNatClampNeg ((I 29 0) - 1)))] [] (N, am_ts T, (am_u I 29 0 ((I 29 0) - 1)), L, am_rs r) Q) else _) from ?_)
    rw [if_pos hd]
    refine am_E.run [] 2000 (show (if ((I 29 0) - 1) < 0 ∨ 16 ≤ Int32.toNatClampNeg ((I 29 0) - 1) then False else (if ((I 29 0) - 1) < 0 ∨ 16 ≤ Int32.toNatClampNeg ((I 29 0) - 1) then False else (True ∧ Q (some (.int (I 30 (Int32.toNatClampNeg ((I 29 0) - 1))))) (N, am_ts T, (am_u (am_u I 29 0 ((I 29 0) - 1)) 12 0 (I 32 (Int32.toNatClampNeg ((I 29 0) - 1)))), L, am_rs r)))) from ?_)
    refine am_ifn hw.1 ?_
    replace hw := hw.2
    refine am_ifn hw.1 ?_
    replace hw := hw.2
    exact ⟨trivial, hK _ _ hw⟩
  · rw [if_neg hc] at hw ⊢
    exact ⟨trivial, hK _ _ hw⟩
/-- KeyKeepers.opens(II)I -/
def w_124 (x0 : Int32) (x1 : Int32) (T : Nat → Nat × Nat) (r : Nat → Nat → Option Nat) (I : am_I) (K : Int32 → Prop) : Prop :=
  if (f_27 x0 I) = 0 then
    K (-1)
  else
    if (f_19 x1 I) = 0 then
      K (-1)
    else
      w_96 x0 x1 6 T r I (fun q1 =>
        if q1 = 0 then
          K 0
        else
          K 1)
set_option maxRecDepth 100000 in
theorem s_124 {S : am_S} {d : Nat} {N : Nat} {T : Nat → Nat × Nat} {I : am_I} {L : am_J} {r : Nat → Nat → Option Nat} {Q : am_Q} {x0 : Int32} {x1 : Int32} {K : Int32 → Prop} (hw : w_124 x0 x1 T r I K) (hK : ∀ (q : Int32), K q → Q (some (.int q)) (N, am_ts T, I, L, am_rs r)) : am_E S 124 (d + 2) 0 0 0 [.ref 0, .int x0, .int x1] [] (N, am_ts T, I, L, am_rs r) Q := by
  unfold w_124 at hw
  try dsimp only at hw
  refine am_E.run [5] 2000 (show (am_E S 124 (d + 2) 0 0 5 [.ref 0, .int x0, .int x1] [.int x0, .ref 1] (N, am_ts T, I, L, am_rs r) Q) from ?_)
  refine am_E.go ⟨fun v h9 => v = some (.int (f_27 x0 I)) ∧ h9 = (N, am_ts T, I, L, am_rs r), s_27 ⟨rfl, rfl⟩, ?_⟩
  intro v h9 hv
  obtain ⟨rfl, rfl⟩ := hv
  refine am_E.run [16] 2000 (show (if (f_27 x0 I) = 0 then (True ∧ Q (some (.int (-1))) (N, am_ts T, I, L, am_rs r)) else (am_E S 124 (d + 2) 0 0 16 [.ref 0, .int x0, .int x1] [.int x1, .ref 1] (N, am_ts T, I, L, am_rs r) Q)) from ?_)
  by_cases hc : (f_27 x0 I) = 0
  · rw [if_pos hc] at hw ⊢
    exact ⟨trivial, hK _ hw⟩
  · rw [if_neg hc] at hw ⊢
    refine am_E.go ⟨fun v h9 => v = some (.int (f_19 x1 I)) ∧ h9 = (N, am_ts T, I, L, am_rs r), s_19 ⟨rfl, rfl⟩, ?_⟩
    intro v h9 hv
    obtain ⟨rfl, rfl⟩ := hv
    refine am_E.run [37] 2000 (show (if (f_19 x1 I) = 0 then (True ∧ Q (some (.int (-1))) (N, am_ts T, I, L, am_rs r)) else (am_E S 124 (d + 2) 0 0 37 [.ref 0, .int x0, .int x1] [.ref 6, .int x1, .int x0, .ref 1] (N, am_ts T, I, L, am_rs r) Q)) from ?_)
    by_cases hc : (f_19 x1 I) = 0
    · rw [if_pos hc] at hw ⊢
      exact ⟨trivial, hK _ hw⟩
    · rw [if_neg hc] at hw ⊢
      refine am_E.go ⟨am_ki_ N T I L r _, s_96 hw (fun q1 hk => ⟨q1, rfl, rfl, hk⟩), ?_⟩
      intro v h9 hv
      obtain ⟨q1, rfl, rfl, hw⟩ := hv
      try dsimp only at hw
      refine am_E.run [] 2000 (show (if q1 = 0 then (True ∧ Q (some (.int 0)) (N, am_ts T, I, L, am_rs r)) else (True ∧ Q (some (.int 1)) (N, am_ts T, I, L, am_rs r))) from ?_)
      by_cases hc : q1 = 0
      · rw [if_pos hc] at hw ⊢
        exact ⟨trivial, hK _ hw⟩
      · rw [if_neg hc] at hw ⊢
        exact ⟨trivial, hK _ hw⟩
def lw_127_9 : Nat → Int32 → Int32 → Int32 → am_I → (Int32 → Int32 → Prop) → Prop
  | 0, _, _, _, _, _ => False
  | n + 1, v1, v2, v3, I, E0 =>
    if (I 1 10) ≤ v3 then
      E0 v2 v3
    else
      ¬ (v3 < 0 ∨ 8 ≤ Int32.toNatClampNeg v3) ∧
      if (f_20 (I 8 (Int32.toNatClampNeg v3)) v1) = 1 then
        ¬ (v3 < 0 ∨ 8 ≤ Int32.toNatClampNeg v3) ∧
        lw_127_9 n v1 (v2 ||| (I 7 (Int32.toNatClampNeg v3))) (v3 + 1) I E0
      else
        lw_127_9 n v1 v2 (v3 + 1) I E0
set_option maxRecDepth 100000 in
theorem sl_127_9 {S : am_S} {d : Nat} {Q : am_Q} {N : Nat} {T : Nat → Nat × Nat} {I : am_I} {L : am_J} {r : Nat → Nat → Option Nat} {E0 : Int32 → Int32 → Prop} : ∀ (n : Nat) {v1 : Int32} {v2 : Int32} {v3 : Int32}, lw_127_9 n v1 v2 v3 I E0 → (∀ (o2 : Int32) (o3 : Int32), E0 o2 o3 → am_E S 127 (d + 1) 0 0 46 [.ref 1, .int v1, .int o2, .int o3] [] (N, am_ts T, I, L, am_rs r) Q) → am_E S 127 (d + 1) 0 0 9 [.ref 1, .int v1, .int v2, .int v3] [] (N, am_ts T, I, L, am_rs r) Q
  | 0, _, _, _, hw, _ => hw.elim
  | n + 1, v1, v2, v3, hw, hE0 => by
    have ih := @sl_127_9 S d Q N T I L r E0 n
    unfold lw_127_9 at hw
    try dsimp only at hw
    refine am_E.run [24, 46] 2000 (show (if (I 1 10) ≤ v3 then (am_E S 127 (d + 1) 0 0 46 [.ref 1, .int v1, .int v2, .int v3] [] (N, am_ts T, I, L, am_rs r) Q) else (if v3 < 0 ∨ 8 ≤ Int32.toNatClampNeg v3 then False else (am_E S 127 (d + 1) 0 0 24 [.ref 1, .int v1, .int v2, .int v3] [.int v1, .int (I 8 (Int32.toNatClampNeg v3))] (N, am_ts T, I, L, am_rs r) Q))) from ?_)
    by_cases hc : (I 1 10) ≤ v3
    · rw [if_pos hc] at hw ⊢
      exact hE0 _ _ hw
    · rw [if_neg hc] at hw ⊢
      refine am_ifn hw.1 ?_
      replace hw := hw.2
      refine am_E.go ⟨fun v h9 => v = some (.int (f_20 (I 8 (Int32.toNatClampNeg v3)) v1)) ∧ h9 = (N, am_ts T, I, L, am_rs r), s_20 ⟨rfl, rfl⟩, ?_⟩
      intro v h9 hv
      obtain ⟨rfl, rfl⟩ := hv
      refine am_E.run [9] 2000 (show (if (f_20 (I 8 (Int32.toNatClampNeg v3)) v1) = 1 then (if v3 < 0 ∨ 8 ≤ Int32.toNatClampNeg v3 then False else (am_E S 127 (d + 1) 0 0 9 [.ref 1, .int v1, .int (v2 ||| (I 7 (Int32.toNatClampNeg v3))), .int (v3 + 1)] [] (N, am_ts T, I, L, am_rs r) Q)) else (am_E S 127 (d + 1) 0 0 9 [.ref 1, .int v1, .int v2, .int (v3 + 1)] [] (N, am_ts T, I, L, am_rs r) Q)) from ?_)
      by_cases hc : (f_20 (I 8 (Int32.toNatClampNeg v3)) v1) = 1
      · rw [if_pos hc] at hw ⊢
        refine am_ifn hw.1 ?_
        replace hw := hw.2
        exact ih hw hE0
      · rw [if_neg hc] at hw ⊢
        exact ih hw hE0
/-- KeyKeepers$Doors.usableDoors(LKeyKeepers$Prison;I)I -/
def w_127 (x1 : Int32) (I : am_I) (K : Int32 → Prop) : Prop :=
  ¬ (x1 < 0 ∨ 8 ≤ Int32.toNatClampNeg x1) ∧
  ∃ n9, lw_127_9 n9 x1 (I 7 (Int32.toNatClampNeg x1)) 0 I (fun o1 o2 =>
    K (o1 &&& ((I 1 3) ^^^ (-1))))
set_option maxRecDepth 100000 in
theorem s_127 {S : am_S} {d : Nat} {N : Nat} {T : Nat → Nat × Nat} {I : am_I} {L : am_J} {r : Nat → Nat → Option Nat} {Q : am_Q} {x1 : Int32} {K : Int32 → Prop} (hw : w_127 x1 I K) (hK : ∀ (q : Int32), K q → Q (some (.int q)) (N, am_ts T, I, L, am_rs r)) : am_E S 127 (d + 1) 0 0 0 [.ref 1, .int x1, am_jk, am_jk] [] (N, am_ts T, I, L, am_rs r) Q := by
  unfold w_127 at hw
  try dsimp only at hw
  refine am_E.run [9] 2000 (show (if x1 < 0 ∨ 8 ≤ Int32.toNatClampNeg x1 then False else (am_E S 127 (d + 1) 0 0 9 [.ref 1, .int x1, .int (I 7 (Int32.toNatClampNeg x1)), .int 0] [] (N, am_ts T, I, L, am_rs r) Q)) from ?_)
  refine am_ifn hw.1 ?_
  replace hw := hw.2
  obtain ⟨n9, hw⟩ := hw
  refine sl_127_9 n9 hw (fun o1 o2 hw => ?_)
  · try dsimp only at hw
    refine am_E.run [] 2000 (show (True ∧ Q (some (.int (o1 &&& ((I 1 3) ^^^ (-1))))) (N, am_ts T, I, L, am_rs r)) from ?_)
    exact ⟨trivial, hK _ hw⟩
def lw_128_5 : Nat → Int32 → Int32 → Int32 → Int32 → am_I → (Int32 → Int32 → Prop) → Prop
  | 0, _, _, _, _, _, _ => False
  | n + 1, v1, v2, v3, v4, I, E0 =>
    if (I 1 2) ≤ v4 then
      E0 v3 v4
    else
      ¬ (v4 < 0 ∨ 12 ≤ Int32.toNatClampNeg v4) ∧
      if (f_20 v2 (I 2 (Int32.toNatClampNeg v4))) = 1 then
        if (f_20 v1 v4) = 1 then
          ¬ (v4 < 0 ∨ 12 ≤ Int32.toNatClampNeg v4) ∧
          ¬ (v4 < 0 ∨ 12 ≤ Int32.toNatClampNeg v4) ∧
          lw_128_5 n v1 v2 (v3 ||| ((1 <<< ((I 2 (Int32.toNatClampNeg v4)) &&& 31)) ||| (1 <<< ((I 3 (Int32.toNatClampNeg v4)) &&& 31)))) (v4 + 1) I E0
        else
          lw_128_5 n v1 v2 v3 (v4 + 1) I E0
      else
        ¬ (v4 < 0 ∨ 12 ≤ Int32.toNatClampNeg v4) ∧
        if (f_20 v2 (I 3 (Int32.toNatClampNeg v4))) = 1 then
          if (f_20 v1 v4) = 1 then
            ¬ (v4 < 0 ∨ 12 ≤ Int32.toNatClampNeg v4) ∧
            ¬ (v4 < 0 ∨ 12 ≤ Int32.toNatClampNeg v4) ∧
            lw_128_5 n v1 v2 (v3 ||| ((1 <<< ((I 2 (Int32.toNatClampNeg v4)) &&& 31)) ||| (1 <<< ((I 3 (Int32.toNatClampNeg v4)) &&& 31)))) (v4 + 1) I E0
          else
            lw_128_5 n v1 v2 v3 (v4 + 1) I E0
        else
          lw_128_5 n v1 v2 v3 (v4 + 1) I E0
set_option maxRecDepth 100000 in
theorem sl_128_5 {S : am_S} {d : Nat} {Q : am_Q} {N : Nat} {T : Nat → Nat × Nat} {I : am_I} {L : am_J} {r : Nat → Nat → Option Nat} {E0 : Int32 → Int32 → Prop} : ∀ (n : Nat) {v1 : Int32} {v2 : Int32} {v3 : Int32} {v4 : Int32}, lw_128_5 n v1 v2 v3 v4 I E0 → (∀ (o3 : Int32) (o4 : Int32), E0 o3 o4 → am_E S 128 (d + 1) 0 0 94 [.ref 1, .int v1, .int v2, .int o3, .int o4, am_jk] [] (N, am_ts T, I, L, am_rs r) Q) → am_E S 128 (d + 1) 0 0 5 [.ref 1, .int v1, .int v2, .int v3, .int v4, am_jk] [] (N, am_ts T, I, L, am_rs r) Q
  | 0, _, _, _, _, hw, _ => hw.elim
  | n + 1, v1, v2, v3, v4, hw, hE0 => by
    have ih := @sl_128_5 S d Q N T I L r E0 n
    unfold lw_128_5 at hw
    try dsimp only at hw
    refine am_E.run [22, 94] 2000 (show (if (I 1 2) ≤ v4 then (am_E S 128 (d + 1) 0 0 94 [.ref 1, .int v1, .int v2, .int v3, .int v4, am_jk] [] (N, am_ts T, I, L, am_rs r) Q) else (if v4 < 0 ∨ 12 ≤ Int32.toNatClampNeg v4 then False else (am_E S 128 (d + 1) 0 0 22 [.ref 1, .int v1, .int v2, .int v3, .int v4, am_jk] [.int (I 2 (Int32.toNatClampNeg v4)), .int v2] (N, am_ts T, I, L, am_rs r) Q))) from ?_)
    by_cases hc : (I 1 2) ≤ v4
    · rw [if_pos hc] at hw ⊢
      exact hE0 _ _ hw
    · rw [if_neg hc] at hw ⊢
      refine am_ifn hw.1 ?_
      replace hw := hw.2
      refine am_E.go ⟨fun v h9 => v = some (.int (f_20 v2 (I 2 (Int32.toNatClampNeg v4)))) ∧ h9 = (N, am_ts T, I, L, am_rs r), s_20 ⟨rfl, rfl⟩, ?_⟩
      intro v h9 hv
      obtain ⟨rfl, rfl⟩ := hv
      refine am_E.run [37, 59] 2000 (show (if (f_20 v2 (I 2 (Int32.toNatClampNeg v4))) = 1 then (am_E S 128 (d + 1) 0 0 59 [.ref 1, .int v1, .int v2, .int v3, .int v4, .int 1] [.int v4, .int v1] (N, am_ts T, I, L, am_rs r) Q) else (if v4 < 0 ∨ 12 ≤ Int32.toNatClampNeg v4 then False else (am_E S 128 (d + 1) 0 0 37 [.ref 1, .int v1, .int v2, .int v3, .int v4, am_jk] [.int (I 3 (Int32.toNatClampNeg v4)), .int v2] (N, am_ts T, I, L, am_rs r) Q))) from ?_)
      by_cases hc : (f_20 v2 (I 2 (Int32.toNatClampNeg v4))) = 1
      · rw [if_pos hc] at hw ⊢
        refine am_E.go ⟨fun v h9 => v = some (.int (f_20 v1 v4)) ∧ h9 = (N, am_ts T, I, L, am_rs r), s_20 ⟨rfl, rfl⟩, ?_⟩
        intro v h9 hv
        obtain ⟨rfl, rfl⟩ := hv
        refine am_E.run [5] 2000 (show (if (f_20 v1 v4) = 1 then (if v4 < 0 ∨ 12 ≤ Int32.toNatClampNeg v4 then False else (if v4 < 0 ∨ 12 ≤ Int32.toNatClampNeg v4 then False else (am_E S 128 (d + 1) 0 0 5 [.ref 1, .int v1, .int v2, .int (v3 ||| ((1 <<< ((I 2 (Int32.toNatClampNeg v4)) &&& 31)) ||| (1 <<< ((I 3 (Int32.toNatClampNeg v4)) &&& 31)))), .int (v4 + 1), .int 1] [] (N, am_ts T, I, L, am_rs r) Q))) else (am_E S 128 (d + 1) 0 0 5 [.ref 1, .int v1, .int v2, .int v3, .int (v4 + 1), .int 1] [] (N, am_ts T, I, L, am_rs r) Q)) from ?_)
        by_cases hc : (f_20 v1 v4) = 1
        · rw [if_pos hc] at hw ⊢
          refine am_ifn hw.1 ?_
          replace hw := hw.2
          refine am_ifn hw.1 ?_
          replace hw := hw.2
          exact am_E.junk (ih hw hE0) (am_le.cons (am_le.cons (am_le.cons (am_le.cons (am_le.cons (am_le.jk am_le.nil))))))
        · rw [if_neg hc] at hw ⊢
          exact am_E.junk (ih hw hE0) (am_le.cons (am_le.cons (am_le.cons (am_le.cons (am_le.cons (am_le.jk am_le.nil))))))
      · rw [if_neg hc] at hw ⊢
        refine am_ifn hw.1 ?_
        replace hw := hw.2
        refine am_E.go ⟨fun v h9 => v = some (.int (f_20 v2 (I 3 (Int32.toNatClampNeg v4)))) ∧ h9 = (N, am_ts T, I, L, am_rs r), s_20 ⟨rfl, rfl⟩, ?_⟩
        intro v h9 hv
        obtain ⟨rfl, rfl⟩ := hv
        refine am_E.run [5, 59] 2000 (show (if (f_20 v2 (I 3 (Int32.toNatClampNeg v4))) = 1 then (am_E S 128 (d + 1) 0 0 59 [.ref 1, .int v1, .int v2, .int v3, .int v4, .int 1] [.int v4, .int v1] (N, am_ts T, I, L, am_rs r) Q) else (am_E S 128 (d + 1) 0 0 5 [.ref 1, .int v1, .int v2, .int v3, .int (v4 + 1), .int 0] [] (N, am_ts T, I, L, am_rs r) Q)) from ?_)
        by_cases hc : (f_20 v2 (I 3 (Int32.toNatClampNeg v4))) = 1
        · rw [if_pos hc] at hw ⊢
          refine am_E.go ⟨fun v h9 => v = some (.int (f_20 v1 v4)) ∧ h9 = (N, am_ts T, I, L, am_rs r), s_20 ⟨rfl, rfl⟩, ?_⟩
          intro v h9 hv
          obtain ⟨rfl, rfl⟩ := hv
          refine am_E.run [5] 2000 (show (if (f_20 v1 v4) = 1 then (if v4 < 0 ∨ 12 ≤ Int32.toNatClampNeg v4 then False else (if v4 < 0 ∨ 12 ≤ Int32.toNatClampNeg v4 then False else (am_E S 128 (d + 1) 0 0 5 [.ref 1, .int v1, .int v2, .int (v3 ||| ((1 <<< ((I 2 (Int32.toNatClampNeg v4)) &&& 31)) ||| (1 <<< ((I 3 (Int32.toNatClampNeg v4)) &&& 31)))), .int (v4 + 1), .int 1] [] (N, am_ts T, I, L, am_rs r) Q))) else (am_E S 128 (d + 1) 0 0 5 [.ref 1, .int v1, .int v2, .int v3, .int (v4 + 1), .int 1] [] (N, am_ts T, I, L, am_rs r) Q)) from ?_)
          by_cases hc : (f_20 v1 v4) = 1
          · rw [if_pos hc] at hw ⊢
            refine am_ifn hw.1 ?_
            replace hw := hw.2
            refine am_ifn hw.1 ?_
            replace hw := hw.2
            exact am_E.junk (ih hw hE0) (am_le.cons (am_le.cons (am_le.cons (am_le.cons (am_le.cons (am_le.jk am_le.nil))))))
          · rw [if_neg hc] at hw ⊢
            exact am_E.junk (ih hw hE0) (am_le.cons (am_le.cons (am_le.cons (am_le.cons (am_le.cons (am_le.jk am_le.nil))))))
        · rw [if_neg hc] at hw ⊢
          exact am_E.junk (ih hw hE0) (am_le.cons (am_le.cons (am_le.cons (am_le.cons (am_le.cons (am_le.jk am_le.nil))))))
/-- KeyKeepers$Doors.oneDoorOn(LKeyKeepers$Prison;II)I -/
def w_128 (x1 : Int32) (x2 : Int32) (I : am_I) (K : Int32 → Prop) : Prop :=
  ∃ n5, lw_128_5 n5 x1 x2 x2 0 I (fun o1 o2 =>
    K o1)
set_option maxRecDepth 100000 in
theorem s_128 {S : am_S} {d : Nat} {N : Nat} {T : Nat → Nat × Nat} {I : am_I} {L : am_J} {r : Nat → Nat → Option Nat} {Q : am_Q} {x1 : Int32} {x2 : Int32} {K : Int32 → Prop} (hw : w_128 x1 x2 I K) (hK : ∀ (q : Int32), K q → Q (some (.int q)) (N, am_ts T, I, L, am_rs r)) : am_E S 128 (d + 1) 0 0 0 [.ref 1, .int x1, .int x2, am_jk, am_jk, am_jk] [] (N, am_ts T, I, L, am_rs r) Q := by
  unfold w_128 at hw
  try dsimp only at hw
  refine am_E.run [5] 2000 (show (am_E S 128 (d + 1) 0 0 5 [.ref 1, .int x1, .int x2, .int x2, .int 0, am_jk] [] (N, am_ts T, I, L, am_rs r) Q) from ?_)
  obtain ⟨n5, hw⟩ := hw
  refine sl_128_5 n5 hw (fun o1 o2 hw => ?_)
  · try dsimp only at hw
    refine am_E.run [] 2000 (show (True ∧ Q (some (.int o1)) (N, am_ts T, I, L, am_rs r)) from ?_)
    exact ⟨trivial, hK _ hw⟩
