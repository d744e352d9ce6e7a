/-! rota: the search on paper -/
abbrev SRC : Type := Nat × Nat × List Nat
def vis (P : PRI) (m M n : Nat) (h : List Nat) (c : Nat) (S : SRC) : SRC := (S.1 + (wy P m M n h).2.1, if 0 < (wy P m M n h).2.1 ∧ c + (wy P m M n h).1 < S.2.1 then (c + (wy P m M n h).1, h.reverse ++ pk P m M n h) else (S.2.1, S.2.2))
def vij (P : PRI) (m M n : Nat) (h : List Nat) (c : Nat) (S : SRC) (j : Nat) : SRC := (S.1 + (fd (chd P M (wy P m M n) h) j).2.1, if 0 < (fd (chd P M (wy P m M n) h) j).2.1 ∧ c + (fd (chd P M (wy P m M n) h) j).1 < S.2.1 then (c + (fd (chd P M (wy P m M n) h) j).1, h.reverse ++ (fd (chd P M (wy P m M n) h) j).2.2 :: pk P m M n ((fd (chd P M (wy P m M n) h) j).2.2 :: h)) else (S.2.1, S.2.2))
theorem vij_m {P : PRI} {m M n : Nat} {h : List Nat} {c : Nat} {S : SRC} : vij P m M n h c S m = vis P m M (n + 1) h c S := rfl
theorem vij_0 {P : PRI} {m M n : Nat} {h : List Nat} {c : Nat} {S : SRC} : vij P m M n h c S 0 = S := by
  unfold vij
  rw [if_neg (fun k => absurd k.1 (Nat.lt_irrefl 0))]
  rfl
theorem vij_n {P : PRI} {m M n j : Nat} {h : List Nat} {c : Nat} {S : SRC} (e : okp P M h j = none) : vij P m M n h c S (j + 1) = vij P m M n h c S j := by
  have k : chd P M (wy P m M n) h j = none := by unfold chd; rw [e]
  unfold vij
  rw [fd_n k]
theorem vij_s {P : PRI} {m M n j cj : Nat} {h : List Nat} {c : Nat} {S : SRC} (hP : ∀ p w b c, P p w b = some c → c ≤ 1000) (hn : n ≤ 5) (e : okp P M h j = some cj) : vij P m M n h c S (j + 1) = vis P m M n (j :: h) (c + cj) (vij P m M n h c S j) := by
  have k : chd P M (wy P m M n) h j = some (cj + (wy P m M n (j :: h)).1, (wy P m M n (j :: h)).2.1) := by unfold chd; rw [e]
  have gF : gz (1000 * (n + 1)) (fd (chd P M (wy P m M n) h) j) := fd_gz (by omega) j (fun p x _ hx => chd_gz hP (fun p => wy_gz hP n (p :: h) (by omega)) p x hx)
  have gW : gz (1000 * n) (wy P m M n (j :: h)) := wy_gz hP n (j :: h) (by omega)
  have hc : cj ≤ 1000 := by
    unfold okp at e
    split at e
    · exact hP _ _ _ _ e
    · exact absurd e (by simp)
  unfold vij
  rw [fd_s k]
  unfold vis
  have er : (j :: h).reverse ++ pk P m M n (j :: h) = h.reverse ++ j :: pk P m M n (j :: h) := by simp
  rw [er]
  generalize hF : fd (chd P M (wy P m M n) h) j = F at gF
  generalize hW : wy P m M n (j :: h) = W at gW
  obtain ⟨F1, F2, F3⟩ := F
  obtain ⟨W1, W2, W3⟩ := W
  unfold gz at gF gW
  dsimp only at gF gW ⊢
  rcases gW with ⟨w2, w1⟩ | ⟨w2, w1⟩
  · have z : ¬ cj + W1 < F1 := by rcases gF with ⟨_, f⟩ | ⟨_, f⟩ <;> omega
    rw [if_neg z, if_neg z, w2, Nat.add_zero, Nat.add_zero]
    rw [if_neg (show ¬ (0 < 0 ∧ c + cj + W1 < (if 0 < F2 ∧ c + F1 < S.2.1 then (c + F1, h.reverse ++ F3 :: pk P m M n (F3 :: h)) else (S.2.1, S.2.2)).1) from fun q => absurd q.1 (Nat.lt_irrefl 0))]
  · rcases gF with ⟨f2, f1⟩ | ⟨f2, f1⟩
    · have z : cj + W1 < F1 := by omega
      rw [if_pos z, if_pos z, f2, Nat.zero_add]
      rw [if_neg (show ¬ (0 < 0 ∧ c + F1 < S.2.1) from fun q => absurd q.1 (Nat.lt_irrefl 0)), Nat.add_zero, Nat.add_assoc]
    · by_cases z : cj + W1 < F1
      · rw [if_pos z, if_pos z, Nat.add_assoc, Nat.add_assoc c]
        by_cases y : c + F1 < S.2.1
        · rw [if_pos (⟨by omega, by omega⟩ : 0 < F2 + W2 ∧ c + (cj + W1) < S.2.1), if_pos (⟨f2, y⟩ : 0 < F2 ∧ c + F1 < S.2.1)]
          dsimp only
          rw [if_pos (⟨w2, by omega⟩ : 0 < W2 ∧ c + (cj + W1) < c + F1)]
        · rw [if_neg (show ¬ (0 < F2 ∧ c + F1 < S.2.1) from fun q => y q.2)]
          dsimp only
          by_cases x : c + (cj + W1) < S.2.1
          · rw [if_pos (⟨by omega, x⟩ : 0 < F2 + W2 ∧ c + (cj + W1) < S.2.1), if_pos (⟨w2, x⟩ : 0 < W2 ∧ c + (cj + W1) < S.2.1)]
          · rw [if_neg (show ¬ (0 < F2 + W2 ∧ c + (cj + W1) < S.2.1) from fun q => x q.2), if_neg (show ¬ (0 < W2 ∧ c + (cj + W1) < S.2.1) from fun q => x q.2)]
      · rw [if_neg z, if_neg z, Nat.add_assoc, Nat.add_assoc c]
        by_cases y : c + F1 < S.2.1
        · rw [if_pos (⟨by omega, y⟩ : 0 < F2 + W2 ∧ c + F1 < S.2.1), if_pos (⟨f2, y⟩ : 0 < F2 ∧ c + F1 < S.2.1)]
          dsimp only
          rw [if_neg (show ¬ (0 < W2 ∧ c + (cj + W1) < c + F1) from fun q => by omega)]
        · rw [if_neg (show ¬ (0 < F2 + W2 ∧ c + F1 < S.2.1) from fun q => y q.2), if_neg (show ¬ (0 < F2 ∧ c + F1 < S.2.1) from fun q => y q.2)]
          dsimp only
          rw [if_neg (show ¬ (0 < W2 ∧ c + (cj + W1) < S.2.1) from fun q => by omega)]
/-- what a row costs -/
def cst (P : PRI) : List Nat → Nat
  | [] => 0
  | p :: h => cst P h + (P p h.length (if h.head? = some p then 1 else 0)).getD 0
theorem cst_c {P : PRI} {M p c : Nat} {h : List Nat} (e : okp P M h p = some c) : cst P (p :: h) = cst P h + c := by
  have k : P p h.length (if h.head? = some p then 1 else 0) = some c := by
    unfold okp at e
    split at e
    · exact e
    · exact absurd e (by simp)
  show cst P h + (P p h.length (if h.head? = some p then 1 else 0)).getD 0 = _
  rw [k]
  rfl
