def lw_39_43 : Nat → Int32 → Int32 → Int32 → am_I → (Int32 → Int32 → Int32 → am_I → Prop) → Prop
  | 0, _, _, _, _, _ => False
  | n + 1, v2, v3, v4, I, E0 =>
    if (12 : Int32) ≤ v4 then
      E0 v2 v3 v4 I
    else
      if v3 = 0 then
        E0 v2 v3 v4 I
      else
        if (I 14 4) = 0 then
          w_72 I (fun q3 I4 =>
            if q3 = 0 then
              if q3 = 0 then
                lw_39_43 n 0 0 (v4 + 1) I4 E0
              else
                w_62 2000059 I4 (fun q5 I6 =>
                  if q5 = 0 then
                    lw_39_43 n 0 0 (v4 + 1) I6 E0
                  else
                    lw_39_43 n 0 1 (v4 + 1) I6 E0)
            else
              if (I4 14 8) = 3000000 then
                if q3 = 0 then
                  lw_39_43 n 1 0 (v4 + 1) I4 E0
                else
                  w_62 2000059 I4 (fun q9 I10 =>
                    if q9 = 0 then
                      lw_39_43 n 1 0 (v4 + 1) I10 E0
                    else
                      lw_39_43 n 1 1 (v4 + 1) I10 E0)
              else
                if q3 = 0 then
                  lw_39_43 n 0 0 (v4 + 1) I4 E0
                else
                  w_62 2000059 I4 (fun q7 I8 =>
                    if q7 = 0 then
                      lw_39_43 n 0 0 (v4 + 1) I8 E0
                    else
                      lw_39_43 n 0 1 (v4 + 1) I8 E0))
        else
          w_55 I (fun q11 I12 =>
            if q11 = 0 then
              if q11 = 0 then
                lw_39_43 n 0 0 (v4 + 1) I12 E0
              else
                w_62 2000059 I12 (fun q13 I14 =>
                  if q13 = 0 then
                    lw_39_43 n 0 0 (v4 + 1) I14 E0
                  else
                    lw_39_43 n 0 1 (v4 + 1) I14 E0)
            else
              if (I12 14 8) = 3000000 then
                if q11 = 0 then
                  lw_39_43 n 1 0 (v4 + 1) I12 E0
                else
                  w_62 2000059 I12 (fun q17 I18 =>
                    if q17 = 0 then
                      lw_39_43 n 1 0 (v4 + 1) I18 E0
                    else
                      lw_39_43 n 1 1 (v4 + 1) I18 E0)
              else
                if q11 = 0 then
                  lw_39_43 n 0 0 (v4 + 1) I12 E0
                else
                  w_62 2000059 I12 (fun q15 I16 =>
                    if q15 = 0 then
                      lw_39_43 n 0 0 (v4 + 1) I16 E0
                    else
                      lw_39_43 n 0 1 (v4 + 1) I16 E0))
set_option maxRecDepth 100000 in
theorem sl_39_43 {S : am_S} {d : Nat} {Q : am_Q} {N : Nat} {T : Nat → Nat × Nat} {L : am_J} {r : Nat → Nat → Option Nat} {E0 : Int32 → Int32 → Int32 → am_I → Prop} : ∀ (n : Nat) {v2 : Int32} {v3 : Int32} {v4 : Int32} {I : am_I}, lw_39_43 n v2 v3 v4 I E0 → (∀ (o2 : Int32) (o3 : Int32) (o4 : Int32) (I1 : am_I), E0 o2 o3 o4 I1 → am_E S 39 (d + 46) 0 0 120 [.ref 14, am_jk, .int o2, .int o3, .int o4, am_jk] [] (N, am_ts T, I1, L, am_rs r) Q) → am_E S 39 (d + 46) 0 0 43 [.ref 14, am_jk, .int v2, .int v3, .int v4, am_jk] [] (N, am_ts T, I, L, am_rs r) Q
  | 0, _, _, _, _, hw, _ => hw.elim
  | n + 1, v2, v3, v4, I, hw, hE0 => by
    have ih := @sl_39_43 S d Q N T L r E0 n
    unfold lw_39_43 at hw
    try dsimp only at hw
    refine am_E.run [62, 69, 120] 2000 (show (if (12 : Int32) ≤ v4 then (am_E S 39 (d + 46) 0 0 120 [.ref 14, am_jk, .int v2, .int v3, .int v4, am_jk] [] (N, am_ts T, I, L, am_rs r) Q) else (if v3 = 0 then (am_E S 39 (d + 46) 0 0 120 [.ref 14, am_jk, .int v2, .int v3, .int v4, am_jk] [] (N, am_ts T, I, L, am_rs r) Q) else (if (I 14 4) = 0 then (am_E S 39 (d + 46) 0 0 69 [.ref 14, am_jk, .int v2, .int v3, .int v4, am_jk] [.ref 14] (N, am_ts T, I, L, am_rs r) Q) else (am_E S 39 (d + 46) 0 0 62 [.ref 14, am_jk, .int v2, .int v3, .int v4, am_jk] [.ref 14] (N, am_ts T, I, L, am_rs r) Q)))) from ?_)
    by_cases hc : (12 : Int32) ≤ v4
    · rw [if_pos hc] at hw ⊢
      exact hE0 _ _ _ _ hw
    · rw [if_neg hc] at hw ⊢
      by_cases hc : v3 = 0
      · rw [if_pos hc] at hw ⊢
        exact hE0 _ _ _ _ hw
      · rw [if_neg hc] at hw ⊢
        by_cases hc : (I 14 4) = 0
        · rw [if_pos hc] at hw ⊢
          refine am_E.go ⟨am_ki_I N T L r _, s_72 hw (fun q3 I4 hk => ⟨q3, I4, rfl, rfl, hk⟩), ?_⟩
          intro v h9 hv
          obtain ⟨q3, I4, rfl, rfl, hw⟩ := hv
          try dsimp only at hw
          refine am_E.run [43, 102] 2000 (show (if q3 = 0 then (if q3 = 0 then (am_E S 39 (d + 46) 0 0 43 [.ref 14, am_jk, .int 0, .int 0, .int (v4 + 1), .int q3] [] (N, am_ts T, I4, L, am_rs r) Q) else (am_E S 39 (d + 46) 0 0 102 [.ref 14, am_jk, .int 0, .int v3, .int v4, .int q3] [.int 2000059, .ref 14] (N, am_ts T, I4, L, am_rs r) Q)) else (if (I4 14 8) = 3000000 then (if q3 = 0 then (am_E S 39 (d + 46) 0 0 43 [.ref 14, am_jk, .int 1, .int 0, .int (v4 + 1), .int q3] [] (N, am_ts T, I4, L, am_rs r) Q) else (am_E S 39 (d + 46) 0 0 102 [.ref 14, am_jk, .int 1, .int v3, .int v4, .int q3] [.int 2000059, .ref 14] (N, am_ts T, I4, L, am_rs r) Q)) else (if q3 = 0 then (am_E S 39 (d + 46) 0 0 43 [.ref 14, am_jk, .int 0, .int 0, .int (v4 + 1), .int q3] [] (N, am_ts T, I4, L, am_rs r) Q) else (am_E S 39 (d + 46) 0 0 102 [.ref 14, am_jk, .int 0, .int v3, .int v4, .int q3] [.int 2000059, .ref 14] (N, am_ts T, I4, L, am_rs r) Q)))) from ?_)
          by_cases hc : q3 = 0
          · rw [if_pos hc] at hw ⊢
            by_cases hc : q3 = 0
            · rw [if_pos hc] at hw ⊢
              exact am_E.junk (ih hw hE0) (am_le.cons (am_le.cons (am_le.cons (am_le.cons (am_le.cons (am_le.jk am_le.nil))))))
            · rw [if_neg hc] at hw ⊢
              refine am_E.go ⟨am_ki_I N T L r _, s_62 hw (fun q5 I6 hk => ⟨q5, I6, rfl, rfl, hk⟩), ?_⟩
              intro v h9 hv
              obtain ⟨q5, I6, rfl, rfl, hw⟩ := hv
              try dsimp only at hw
              refine am_E.run [43] 2000 (show (if q5 = 0 then (am_E S 39 (d + 46) 0 0 43 [.ref 14, am_jk, .int 0, .int 0, .int (v4 + 1), .int q3] [] (N, am_ts T, I6, L, am_rs r) Q) else (am_E S 39 (d + 46) 0 0 43 [.ref 14, am_jk, .int 0, .int 1, .int (v4 + 1), .int q3] [] (N, am_ts T, I6, L, am_rs r) Q)) from ?_)
              by_cases hc : q5 = 0
              · rw [if_pos hc] at hw ⊢
                exact am_E.junk (ih hw hE0) (am_le.cons (am_le.cons (am_le.cons (am_le.cons (am_le.cons (am_le.jk am_le.nil))))))
              · rw [if_neg hc] at hw ⊢
                exact am_E.junk (ih hw hE0) (am_le.cons (am_le.cons (am_le.cons (am_le.cons (am_le.cons (am_le.jk am_le.nil))))))
          · rw [if_neg hc] at hw ⊢
            by_cases hc : (I4 14 8) = 3000000
            · rw [if_pos hc] at hw ⊢
              by_cases hc : q3 = 0
              · rw [if_pos hc] at hw ⊢
                exact am_E.junk (ih hw hE0) (am_le.cons (am_le.cons (am_le.cons (am_le.cons (am_le.cons (am_le.jk am_le.nil))))))
              · rw [if_neg hc] at hw ⊢
                refine am_E.go ⟨am_ki_I N T L r _, s_62 hw (fun q9 I10 hk => ⟨q9, I10, rfl, rfl, hk⟩), ?_⟩
                intro v h9 hv
                obtain ⟨q9, I10, rfl, rfl, hw⟩ := hv
                try dsimp only at hw
                refine am_E.run [43] 2000 (show (if q9 = 0 then (am_E S 39 (d + 46) 0 0 43 [.ref 14, am_jk, .int 1, .int 0, .int (v4 + 1), .int q3] [] (N, am_ts T, I10, L, am_rs r) Q) else (am_E S 39 (d + 46) 0 0 43 [.ref 14, am_jk, .int 1, .int 1, .int (v4 + 1), .int q3] [] (N, am_ts T, I10, L, am_rs r) Q)) from ?_)
                by_cases hc : q9 = 0
                · rw [if_pos hc] at hw ⊢
                  exact am_E.junk (ih hw hE0) (am_le.cons (am_le.cons (am_le.cons (am_le.cons (am_le.cons (am_le.jk am_le.nil))))))
                · rw [if_neg hc] at hw ⊢
                  exact am_E.junk (ih hw hE0) (am_le.cons (am_le.cons (am_le.cons (am_le.cons (am_le.cons (am_le.jk am_le.nil))))))
            · rw [if_neg hc] at hw ⊢
              by_cases hc : q3 = 0
              · rw [if_pos hc] at hw ⊢
                exact am_E.junk (ih hw hE0) (am_le.cons (am_le.cons (am_le.cons (am_le.cons (am_le.cons (am_le.jk am_le.nil))))))
              · rw [if_neg hc] at hw ⊢
                refine am_E.go ⟨am_ki_I N T L r _, s_62 hw (fun q7 I8 hk => ⟨q7, I8, rfl, rfl, hk⟩), ?_⟩
                intro v h9 hv
                obtain ⟨q7, I8, rfl, rfl, hw⟩ := hv
                try dsimp only at hw
                refine am_E.run [43] 2000 (show (if q7 = 0 then (am_E S 39 (d + 46) 0 0 43 [.ref 14, am_jk, .int 0, .int 0, .int (v4 + 1), .int q3] [] (N, am_ts T, I8, L, am_rs r) Q) else (am_E S 39 (d + 46) 0 0 43 [.ref 14, am_jk, .int 0, .int 1, .int (v4 + 1), .int q3] [] (N, am_ts T, I8, L, am_rs r) Q)) from ?_)
                by_cases hc : q7 = 0
                · rw [if_pos hc] at hw ⊢
                  exact am_E.junk (ih hw hE0) (am_le.cons (am_le.cons (am_le.cons (am_le.cons (am_le.cons (am_le.jk am_le.nil))))))
                · rw [if_neg hc] at hw ⊢
                  exact am_E.junk (ih hw hE0) (am_le.cons (am_le.cons (am_le.cons (am_le.cons (am_le.cons (am_le.jk am_le.nil))))))
        · rw [if_neg hc] at hw ⊢
          refine am_E.go ⟨am_ki_I N T L r _, s_55 hw (fun q11 I12 hk => ⟨q11, I12, rfl, rfl, hk⟩), ?_⟩
          intro v h9 hv
          obtain ⟨q11, I12, rfl, rfl, hw⟩ := hv
          try dsimp only at hw
          refine am_E.run [43, 102] 2000 (show (if q11 = 0 then (if q11 = 0 then (am_E S 39 (d + 46) 0 0 43 [.ref 14, am_jk, .int 0, .int 0, .int (v4 + 1), .int q11] [] (N, am_ts T, I12, L, am_rs r) Q) else (am_E S 39 (d + 46) 0 0 102 [.ref 14, am_jk, .int 0, .int v3, .int v4, .int q11] [.int 2000059, .ref 14] (N, am_ts T, I12, L, am_rs r) Q)) else (if (I12 14 8) = 3000000 then (if q11 = 0 then (am_E S 39 (d + 46) 0 0 43 [.ref 14, am_jk, .int 1, .int 0, .int (v4 + 1), .int q11] [] (N, am_ts T, I12, L, am_rs r) Q) else (am_E S 39 (d + 46) 0 0 102 [.ref 14, am_jk, .int 1, .int v3, .int v4, .int q11] [.int 2000059, .ref 14] (N, am_ts T, I12, L, am_rs r) Q)) else (if q11 = 0 then (am_E S 39 (d + 46) 0 0 43 [.ref 14, am_jk, .int 0, .int 0, .int (v4 + 1), .int q11] [] (N, am_ts T, I12, L, am_rs r) Q) else (am_E S 39 (d + 46) 0 0 102 [.ref 14, am_jk, .int 0, .int v3, .int v4, .int q11] [.int 2000059, .ref 14] (N, am_ts T, I12, L, am_rs r) Q)))) from ?_)
          by_cases hc : q11 = 0
          · rw [if_pos hc] at hw ⊢
            by_cases hc : q11 = 0
            · rw [if_pos hc] at hw ⊢
              exact am_E.junk (ih hw hE0) (am_le.cons (am_le.cons (am_le.cons (am_le.cons (am_le.cons (am_le.jk am_le.nil))))))
            · rw [if_neg hc] at hw ⊢
              refine am_E.go ⟨am_ki_I N T L r _, s_62 hw (fun q13 I14 hk => ⟨q13, I14, rfl, rfl, hk⟩), ?_⟩
              intro v h9 hv
              obtain ⟨q13, I14, rfl, rfl, hw⟩ := hv
              try dsimp only at hw
              refine am_E.run [43] 2000 (show (if q13 = 0 then (am_E S 39 (d + 46) 0 0 43 [.ref 14, am_jk, .int 0, .int 0, .int (v4 + 1), .int q11] [] (N, am_ts T, I14, L, am_rs r) Q) else (am_E S 39 (d + 46) 0 0 43 [.ref 14, am_jk, .int 0, .int 1, .int (v4 + 1), .int q11] [] (N, am_ts T, I14, L, am_rs r) Q)) from ?_)
              by_cases hc : q13 = 0
              · rw [if_pos hc] at hw ⊢
                exact am_E.junk (ih hw hE0) (am_le.cons (am_le.cons (am_le.cons (am_le.cons (am_le.cons (am_le.jk am_le.nil))))))
              · rw [if_neg hc] at hw ⊢
                exact am_E.junk (ih hw hE0) (am_le.cons (am_le.cons (am_le.cons (am_le.cons (am_le.cons (am_le.jk am_le.nil))))))
          · rw [if_neg hc] at hw ⊢
            by_cases hc : (I12 14 8) = 3000000
            · rw [if_pos hc] at hw ⊢
              by_cases hc : q11 = 0
              · rw [if_pos hc] at hw ⊢
                exact am_E.junk (ih hw hE0) (am_le.cons (am_le.cons (am_le.cons (am_le.cons (am_le.cons (am_le.jk am_le.nil))))))
              · rw [if_neg hc] at hw ⊢
                refine am_E.go ⟨am_ki_I N T L r _, s_62 hw (fun q17 I18 hk => ⟨q17, I18, rfl, rfl, hk⟩), ?_⟩
                intro v h9 hv
                obtain ⟨q17, I18, rfl, rfl, hw⟩ := hv
                try dsimp only at hw
                refine am_E.run [43] 2000 (show (if q17 = 0 then (am_E S 39 (d + 46) 0 0 43 [.ref 14, am_jk, .int 1, .int 0, .int (v4 + 1), .int q11] [] (N, am_ts T, I18, L, am_rs r) Q) else (am_E S 39 (d + 46) 0 0 43 [.ref 14, am_jk, .int 1, .int 1, .int (v4 + 1), .int q11] [] (N, am_ts T, I18, L, am_rs r) Q)) from ?_)
                by_cases hc : q17 = 0
                · rw [if_pos hc] at hw ⊢
                  exact am_E.junk (ih hw hE0) (am_le.cons (am_le.cons (am_le.cons (am_le.cons (am_le.cons (am_le.jk am_le.nil))))))
                · rw [if_neg hc] at hw ⊢
                  exact am_E.junk (ih hw hE0) (am_le.cons (am_le.cons (am_le.cons (am_le.cons (am_le.cons (am_le.jk am_le.nil))))))
            · rw [if_neg hc] at hw ⊢
              by_cases hc : q11 = 0
              · rw [if_pos hc] at hw ⊢
                exact am_E.junk (ih hw hE0) (am_le.cons (am_le.cons (am_le.cons (am_le.cons (am_le.cons (am_le.jk am_le.nil))))))
              · rw [if_neg hc] at hw ⊢
                refine am_E.go ⟨am_ki_I N T L r _, s_62 hw (fun q15 I16 hk => ⟨q15, I16, rfl, rfl, hk⟩), ?_⟩
                intro v h9 hv
                obtain ⟨q15, I16, rfl, rfl, hw⟩ := hv
                try dsimp only at hw
                refine am_E.run [43] 2000 (show (if q15 = 0 then (am_E S 39 (d + 46) 0 0 43 [.ref 14, am_jk, .int 0, .int 0, .int (v4 + 1), .int q11] [] (N, am_ts T, I16, L, am_rs r) Q) else (am_E S 39 (d + 46) 0 0 43 [.ref 14, am_jk, .int 0, .int 1, .int (v4 + 1), .int q11] [] (N, am_ts T, I16, L, am_rs r) Q)) from ?_)
                by_cases hc : q15 = 0
                · rw [if_pos hc] at hw ⊢
                  exact am_E.junk (ih hw hE0) (am_le.cons (am_le.cons (am_le.cons (am_le.cons (am_le.cons (am_le.jk am_le.nil))))))
                · rw [if_neg hc] at hw ⊢
                  exact am_E.junk (ih hw hE0) (am_le.cons (am_le.cons (am_le.cons (am_le.cons (am_le.cons (am_le.jk am_le.nil))))))
/-- KeyKeepers$Reader.reads(Z)Z -/
def w_39 (x0 : Int32) (I : am_I) (K : Int32 → am_I → Prop) : Prop :=
  w_40 I (fun I1 =>
    (x0 = 0 ∨ x0 = 1) ∧
    w_54 (am_u (am_u (am_u (am_u I1 14 4 x0) 14 9 0) 14 7 0) 14 8 (I1 21 0)) (fun I2 =>
      ∃ n43, lw_39_43 n43 0 1 0 I2 (fun o19 o20 o21 I22 =>
        if o19 = 0 then
          ¬ ((I22 14 7) < 0 ∨ 401 ≤ Int32.toNatClampNeg (I22 14 7)) ∧
          (o19 = 0 ∨ o19 = 1) ∧ K o19 (am_u (am_u I22 14 2 (I22 22 (Int32.toNatClampNeg (I22 14 7)))) 14 1 0)
        else
          (o19 = 0 ∨ o19 = 1) ∧ K o19 (am_u (am_u I22 14 2 (-1)) 14 1 0))))
set_option maxRecDepth 100000 in
theorem s_39 {S : am_S} {d : Nat} {N : Nat} {T : Nat → Nat × Nat} {I : am_I} {L : am_J} {r : Nat → Nat → Option Nat} {Q : am_Q} {x0 : Int32} {K : Int32 → am_I → Prop} (hw : w_39 x0 I K) (hK : ∀ (q : Int32) (I1 : am_I), K q I1 → Q (some (.int q)) (N, am_ts T, I1, L, am_rs r)) : am_E S 39 (d + 46) 0 0 0 [.ref 14, .int x0, am_jk, am_jk, am_jk, am_jk] [] (N, am_ts T, I, L, am_rs r) Q := by
  unfold w_39 at hw
  try dsimp only at hw
  refine am_E.run [1] 2000 (show (am_E S 39 (d + 46) 0 0 1 [.ref 14, .int x0, am_jk, am_jk, am_jk, am_jk] [.ref 14] (N, am_ts T, I, L, am_rs r) Q) from ?_)
  refine am_E.go ⟨am_kv_I N T L r _, s_40 hw (fun I1 hk => ⟨I1, rfl, rfl, hk⟩), ?_⟩
  intro v h9 hv
  obtain ⟨I1, rfl, rfl, hw⟩ := hv
  try dsimp only at hw
  refine am_E.run [33] 2000 (show (if (3 = 0 ∨ (3 = 3 ∧ (x0 = 0 ∨ x0 = 1))) then (am_E S 39 (d + 46) 0 0 33 [.ref 14, .int x0, am_jk, am_jk, am_jk, am_jk] [.ref 16] (N, am_ts T, (am_u (am_u (am_u (am_u I1 14 4 x0) 14 9 0) 14 7 0) 14 8 (I1 21 0)), L, am_rs r) Q) else False) from ?_)
  refine am_ifp (Or.inr ⟨rfl, hw.1⟩) ?_
  replace hw := hw.2
  refine am_E.go ⟨am_kv_I N T L r _, s_54 hw (fun I2 hk => ⟨I2, rfl, rfl, hk⟩), ?_⟩
  intro v h9 hv
  obtain ⟨I2, rfl, rfl, hw⟩ := hv
  try dsimp only at hw
  refine am_E.run [43] 2000 (show (am_E S 39 (d + 46) 0 0 43 [.ref 14, .int x0, .int 0, .int 1, .int 0, am_jk] [] (N, am_ts T, I2, L, am_rs r) Q) from ?_)
  obtain ⟨n43, hw⟩ := hw
  refine am_E.junk (lo := [.ref 14, am_jk, .int 0, .int 1, .int 0, am_jk]) ?_ (am_le.cons (am_le.jk (am_le.cons (am_le.cons (am_le.cons (am_le.cons am_le.nil))))))
  refine sl_39_43 n43 hw (fun o19 o20 o21 I22 hw => ?_)
  · try dsimp only at hw
    refine am_E.run [] 2000 (show (if o19 = 0 then (if (I22 14 7) < 0 ∨ 401 ≤ Int32.toNatClampNeg (I22 14 7) then False else ((o19 = 0 ∨ o19 = 1) ∧ Q (some (.int o19)) (N, am_ts T, (am_u (am_u I22 14 2 (I22 22 (Int32.toNatClampNeg (I22 14 7)))) 14 1 0), L, am_rs r))) else ((o19 = 0 ∨ o19 = 1) ∧ Q (some (.int o19)) (N, am_ts T, (am_u (am_u I22 14 2 (-1)) 14 1 0), L, am_rs r))) from ?_)
    by_cases hc : o19 = 0
    · rw [if_pos hc] at hw ⊢
      refine am_ifn hw.1 ?_
      replace hw := hw.2
      exact ⟨hw.1, hK _ _ hw.2⟩
    · rw [if_neg hc] at hw ⊢
      exact ⟨hw.1, hK _ _ hw.2⟩
/-- KeyKeepers.orders()I -/
def w_78 (N : Nat) (T : Nat → Nat × Nat) (r : Nat → Nat → Option Nat) (I : am_I) (K : Int32 → Nat → (Nat → Nat × Nat) → (Nat → Nat → Option Nat) → am_I → Prop) : Prop :=
  w_39 0 (am_u I 35 1 (-1)) (fun q1 I2 =>
    if q1 = 0 then
      w_14 (-6) I2 (fun q10 I11 =>
        K q10 N T r I11)
    else
      w_79 N T r I2 (fun q3 N4 T4 r4 I5 =>
        if q3 = 0 then
          w_14 (-3) I5 (fun q8 I9 =>
            K q8 N4 T4 r4 I9)
        else
          w_16 (I5 35 0) I5 (fun q6 I7 =>
            K q6 N4 T4 r4 I7)))
set_option maxRecDepth 100000 in
theorem s_78 {S : am_S} {d : Nat} {N : Nat} {T : Nat → Nat × Nat} {I : am_I} {L : am_J} {r : Nat → Nat → Option Nat} {Q : am_Q} {K : Int32 → Nat → (Nat → Nat × Nat) → (Nat → Nat → Option Nat) → am_I → Prop} (hw : w_78 N T r I K) (hK : ∀ (q : Int32) (N1 : Nat) (T1 : Nat → Nat × Nat) (r1 : Nat → Nat → Option Nat) (I1 : am_I), K q N1 T1 r1 I1 → Q (some (.int q)) (N1, am_ts T1, I1, L, am_rs r1)) : am_E S 78 (d + 47) 0 0 0 [.ref 0] [] (N, am_ts T, I, L, am_rs r) Q := by
  unfold w_78 at hw
  try dsimp only at hw
  refine am_E.run [13] 2000 (show (am_E S 78 (d + 47) 0 0 13 [.ref 0] [.int 0, .ref 14] (N, am_ts T, (am_u I 35 1 (-1)), L, am_rs r) Q) from ?_)
  refine am_E.go ⟨am_ki_I N T L r _, s_39 hw (fun q1 I2 hk => ⟨q1, I2, rfl, rfl, hk⟩), ?_⟩
  intro v h9 hv
  obtain ⟨q1, I2, rfl, rfl, hw⟩ := hv
  try dsimp only at hw
  refine am_E.run [22, 52] 2000 (show (if q1 = 0 then (am_E S 78 (d + 47) 0 0 22 [.ref 0] [.int (-6), .ref 0] (N, am_ts T, I2, L, am_rs r) Q) else (am_E S 78 (d + 47) 0 0 52 [.ref 0] [.ref 24, .ref 16, .ref 29, .ref 1, .ref 35] (N, am_ts T, I2, L, am_rs r) Q)) from ?_)
  by_cases hc : q1 = 0
  · rw [if_pos hc] at hw ⊢
    refine am_E.go ⟨am_ki_I N T L r _, s_14 hw (fun q10 I11 hk => ⟨q10, I11, rfl, rfl, hk⟩), ?_⟩
    intro v h9 hv
    obtain ⟨q10, I11, rfl, rfl, hw⟩ := hv
    try dsimp only at hw
    refine am_E.run [] 2000 (show (True ∧ Q (some (.int q10)) (N, am_ts T, I11, L, am_rs r)) from ?_)
    exact ⟨trivial, hK _ _ _ _ _ hw⟩
  · rw [if_neg hc] at hw ⊢
    refine am_E.go ⟨am_ki_NTrI L _, s_79 hw (fun q3 N4 T4 r4 I5 hk => ⟨q3, N4, T4, r4, I5, rfl, rfl, hk⟩), ?_⟩
    intro v h9 hv
    obtain ⟨q3, N4, T4, r4, I5, rfl, rfl, hw⟩ := hv
    try dsimp only at hw
    refine am_E.run [61, 73] 2000 (show (if q3 = 0 then (am_E S 78 (d + 47) 0 0 61 [.ref 0] [.int (-3), .ref 0] (N4, am_ts T4, I5, L, am_rs r4) Q) else (am_E S 78 (d + 47) 0 0 73 [.ref 0] [.int (I5 35 0), .ref 0] (N4, am_ts T4, I5, L, am_rs r4) Q)) from ?_)
    by_cases hc : q3 = 0
    · rw [if_pos hc] at hw ⊢
      refine am_E.go ⟨am_ki_I N4 T4 L r4 _, s_14 hw (fun q8 I9 hk => ⟨q8, I9, rfl, rfl, hk⟩), ?_⟩
      intro v h9 hv
      obtain ⟨q8, I9, rfl, rfl, hw⟩ := hv
      try dsimp only at hw
      refine am_E.run [] 2000 (show (True ∧ Q (some (.int q8)) (N4, am_ts T4, I9, L, am_rs r4)) from ?_)
      exact ⟨trivial, hK _ _ _ _ _ hw⟩
    · rw [if_neg hc] at hw ⊢
      refine am_E.go ⟨am_ki_I N4 T4 L r4 _, s_16 hw (fun q6 I7 hk => ⟨q6, I7, rfl, rfl, hk⟩), ?_⟩
      intro v h9 hv
      obtain ⟨q6, I7, rfl, rfl, hw⟩ := hv
      try dsimp only at hw
      refine am_E.run [] 2000 (show (True ∧ Q (some (.int q6)) (N4, am_ts T4, I7, L, am_rs r4)) from ?_)
      exact ⟨trivial, hK _ _ _ _ _ hw⟩
/-- KeyKeepers.law()I -/
def w_38 (N : Nat) (T : Nat → Nat × Nat) (r : Nat → Nat → Option Nat) (I : am_I) (L : am_J) (K : Int32 → Nat → (Nat → Nat × Nat) → (Nat → Nat → Option Nat) → am_I → am_J → Prop) : Prop :=
  if (I 1 15) < 6 then
    w_39 1 I (fun q1 I2 =>
      if q1 = 0 then
        w_14 (-6) I2 (fun q13 I14 =>
          K q13 N T r I14 L)
      else
        w_76 N T r I2 L (fun q3 N4 T4 r4 I5 L6 =>
          (q3 = none →
            False) ∧ ∀ t7, q3 = some t7 →
            w_77 t7 N4 T4 r4 I5 (fun q8 N9 T9 r9 I10 =>
              w_16 q8 I10 (fun q11 I12 =>
                K q11 N9 T9 r9 I12 L6))))
  else
    w_14 (-5) (am_u I 14 1 0) (fun q15 I16 =>
      K q15 N T r I16 L)
set_option maxRecDepth 100000 in
theorem s_38 {S : am_S} {d : Nat} {N : Nat} {T : Nat → Nat × Nat} {I : am_I} {L : am_J} {r : Nat → Nat → Option Nat} {Q : am_Q} {K : Int32 → Nat → (Nat → Nat × Nat) → (Nat → Nat → Option Nat) → am_I → am_J → Prop} (hw : w_38 N T r I L K) (hK : ∀ (q : Int32) (N1 : Nat) (T1 : Nat → Nat × Nat) (r1 : Nat → Nat → Option Nat) (I1 : am_I) (L1 : am_J), K q N1 T1 r1 I1 L1 → Q (some (.int q)) (N1, am_ts T1, I1, L1, am_rs r1)) : am_E S 38 (d + 47) 0 0 0 [.ref 0] [] (N, am_ts T, I, L, am_rs r) Q := by
  unfold w_38 at hw
  try dsimp only at hw
  refine am_E.run [23, 32] 2000 (show (if (I 1 15) < 6 then (am_E S 38 (d + 47) 0 0 32 [.ref 0] [.int 1, .ref 14] (N, am_ts T, I, L, am_rs r) Q) else (am_E S 38 (d + 47) 0 0 23 [.ref 0] [.int (-5), .ref 0] (N, am_ts T, (am_u I 14 1 0), L, am_rs r) Q)) from ?_)
  by_cases hc : (I 1 15) < 6
  · rw [if_pos hc] at hw ⊢
    refine am_E.go ⟨am_ki_I N T L r _, s_39 hw (fun q1 I2 hk => ⟨q1, I2, rfl, rfl, hk⟩), ?_⟩
    intro v h9 hv
    obtain ⟨q1, I2, rfl, rfl, hw⟩ := hv
    try dsimp only at hw
    refine am_E.run [41, 57] 2000 (show (if q1 = 0 then (am_E S 38 (d + 47) 0 0 41 [.ref 0] [.int (-6), .ref 0] (N, am_ts T, I2, L, am_rs r) Q) else (am_E S 38 (d + 47) 0 0 57 [.ref 0] [.ref 16, .ref 1, .ref 0] (N, am_ts T, I2, L, am_rs r) Q)) from ?_)
    by_cases hc : q1 = 0
    · rw [if_pos hc] at hw ⊢
      refine am_E.go ⟨am_ki_I N T L r _, s_14 hw (fun q13 I14 hk => ⟨q13, I14, rfl, rfl, hk⟩), ?_⟩
      intro v h9 hv
      obtain ⟨q13, I14, rfl, rfl, hw⟩ := hv
      try dsimp only at hw
      refine am_E.run [] 2000 (show (True ∧ Q (some (.int q13)) (N, am_ts T, I14, L, am_rs r)) from ?_)
      exact ⟨trivial, hK _ _ _ _ _ _ hw⟩
    · rw [if_neg hc] at hw ⊢
      refine am_E.go ⟨am_kr_NTrIL _, s_76 hw (fun q3 N4 T4 r4 I5 L6 hk => ⟨q3, N4, T4, r4, I5, L6, rfl, rfl, hk⟩), ?_⟩
      intro v h9 hv
      obtain ⟨q3, N4, T4, r4, I5, L6, rfl, rfl, hw⟩ := hv
      try dsimp only at hw
      show (am_E S 38 (d + 47) 5 490 60 [.ref 0] [am_rv q3, .ref 1, .ref 0] (N4, am_ts T4, I5, L6, am_rs r4) Q)
      cases hx : q3 with
      | none =>
        replace hw := hw.1 hx
        show (am_E S 38 (d + 47) 5 490 60 [.ref 0] [.null, .ref 1, .ref 0] (N4, am_ts T4, I5, L6, am_rs r4) Q)
        exact hw.elim
      | some t7 =>
        replace hw := hw.2 t7 hx
        show (am_E S 38 (d + 47) 5 490 60 [.ref 0] [.ref t7, .ref 1, .ref 0] (N4, am_ts T4, I5, L6, am_rs r4) Q)
        refine am_E.go ⟨am_ki_NTrI L6 _, s_77 hw (fun q8 N9 T9 r9 I10 hk => ⟨q8, N9, T9, r9, I10, rfl, rfl, hk⟩), ?_⟩
        intro v h9 hv
        obtain ⟨q8, N9, T9, r9, I10, rfl, rfl, hw⟩ := hv
        try dsimp only at hw
        show (am_E S 38 (d + 47) 5 490 63 [.ref 0] [.int q8, .ref 0] (N9, am_ts T9, I10, L6, am_rs r9) Q)
        refine am_E.go ⟨am_ki_I N9 T9 L6 r9 _, s_16 hw (fun q11 I12 hk => ⟨q11, I12, rfl, rfl, hk⟩), ?_⟩
        intro v h9 hv
        obtain ⟨q11, I12, rfl, rfl, hw⟩ := hv
        try dsimp only at hw
        refine am_E.run [] 2000 (show (True ∧ Q (some (.int q11)) (N9, am_ts T9, I12, L6, am_rs r9)) from ?_)
        exact ⟨trivial, hK _ _ _ _ _ _ hw⟩
  · rw [if_neg hc] at hw ⊢
    refine am_E.go ⟨am_ki_I N T L r _, s_14 hw (fun q15 I16 hk => ⟨q15, I16, rfl, rfl, hk⟩), ?_⟩
    intro v h9 hv
    obtain ⟨q15, I16, rfl, rfl, hw⟩ := hv
    try dsimp only at hw
    refine am_E.run [] 2000 (show (True ∧ Q (some (.int q15)) (N, am_ts T, I16, L, am_rs r)) from ?_)
    exact ⟨trivial, hK _ _ _ _ _ _ hw⟩
