/-! drawn, feed -/
theorem qlm (x : Int32) (m : Nat) (h1 : 1 ≤ m) (hm : m < 2 ^ 31) : (f_13 x 0 (nI m - 1) = 0 ∧ f_182 x.toInt64 0 ((nI m).toInt64 - 1) = 0) ∨ (f_13 x 0 (nI m - 1) = 1 ∧ f_182 x.toInt64 0 ((nI m).toInt64 - 1) = 1 ∧ ∃ n, n < m ∧ x = nI n) := by
  have e : nI m - 1 = nI (m - 1) := nb_sub h1
  rcases q13 x 0 (m - 1) (by decide) (by omega) with ⟨a, g⟩ | ⟨a, n, _, hn, rfl⟩
  · rcases qlt x m hm with ⟨_, b, _⟩ | ⟨_, _, n, hn, e2⟩
    · exact Or.inl ⟨by rw [e]; exact a, b⟩
    · exact absurd e2 (g n (by omega) (by omega))
  · rcases qlt (nI n) m hm with ⟨_, _, g⟩ | ⟨_, b, _⟩
    · exact absurd rfl (g n (by omega))
    · exact Or.inr ⟨by rw [e]; exact a, b, n, by omega, rfl⟩
theorem o_37 {D : am_P} (hD : FrD D) {N : Nat} {T : Nat → Nat × Nat} {r : Nat → Nat → Option Nat} {I : am_I} {L : am_J} (h : Inv D N T r I L) (x1 x2 : Int32) : op_37 x1 x2 (Inv D) N T r I L := by
  unfold op_37 w_172
  have h' := inv_0 hD h
  rcases h.1.2.2.2.2.2.2.2.1 with ⟨p0, em⟩ | ⟨m, h1, h8, e1, e2, eb, hp⟩
  · have none : ∀ q, q = -1 → w_301 x1 x2 I (fun q2 I2 => q = q2 ∧ Inv D N T r I2 L) := by
      intro q hq
      unfold w_301
      rw [if_pos em]
      exact ⟨hq, h'⟩
    by_cases d0 : x2 = 0
    · rw [if_pos d0]
      have f0 : f_13 x1 0 (I 63 0 - 1) = 0 := by
        rw [p0]
        unfold f_13
        by_cases c : x1 < 0
        · rw [if_pos c]
        · rw [if_neg c, if_pos]
          obtain ⟨n, hn, rfl⟩ := nb_of c
          rw [Int32.lt_iff_toInt_lt, nI_toInt hn]
          show (-1 : Int) < n
          omega
      rw [if_pos f0]
      exact none _ rfl
    · rw [if_neg d0]
      by_cases d1 : x2 = 1
      · rw [if_pos d1, if_pos (by rw [p0]; decide)]
        exact none _ rfl
      · rw [if_neg d1]
        exact none _ rfl
  · have n1 : ¬ I 66 61 = -1 := by
      rw [e2]
      exact nb_m1 (by omega)
    by_cases d0 : x2 = 0
    · have b0 : ¬ f_182 x2.toInt64 0 1 = 0 := by
        rw [b182, d0]
        decide
      rw [if_pos d0, e1]
      rcases qlm x1 m h1 (by omega) with ⟨a, b⟩ | ⟨a, b, n, hn, rfl⟩
      · rw [if_pos a]
        show w_301 _ _ _ _
        unfold w_301
        rw [if_neg n1, if_neg b0, if_pos d0, e2, if_pos b]
        exact ⟨rfl, h'⟩
      · rw [if_neg (by rw [a]; decide)]
        refine ⟨nb_gd (by omega) (by decide), ?_⟩
        show w_301 _ _ _ _
        unfold w_301
        rw [if_neg n1, if_neg b0, if_pos d0, e2, if_neg (by rw [b]; decide), if_pos d0]
        refine ⟨nb_gd (by omega) (by decide), ?_, h'⟩
        rw [nI_clamp (by omega : n < 2 ^ 31)]
        exact hp n hn
    · rw [if_neg d0]
      by_cases d1 : x2 = 1
      · have b0 : ¬ f_182 x2.toInt64 0 1 = 0 := by
          rw [b182, d1]
          decide
        rw [if_pos d1, if_neg (by rw [e1]; exact nI_ge (a := 0) (by omega) (by omega))]
        show w_301 _ _ _ _
        unfold w_301
        rw [if_neg n1, if_neg b0, if_neg d0, if_neg d0]
        exact ⟨eb, h'⟩
      · have b0 : f_182 x2.toInt64 0 1 = 0 := by
          rw [b182]
          rcases q18 x2 with ⟨_, a, _, _⟩ | ⟨_, _, b, hb, e⟩
          · exact a
          · rcases (by omega : b = 0 ∨ b = 1) with rfl | rfl
            · exact absurd e d0
            · exact absurd e d1
        rw [if_neg d1]
        show w_301 _ _ _ _
        unfold w_301
        rw [if_neg n1, if_pos b0]
        exact ⟨rfl, h'⟩
/-- one of four bytes of an int -/
def by4 (x : Int32) (j : Nat) : Int32 := (x >>> (nI (24 - 8 * j) &&& 31)) &&& 255
theorem by4_u (x : Int32) (s : Nat) (hs : s ≤ 24) : (UInt32.toInt32 (Int32.toUInt32 x >>> (Int32.toUInt32 (nI s) &&& Int32.toUInt32 31))) &&& 255 = (x >>> (nI s &&& 31)) &&& 255 := by
  refine b_ext (fun i hi => ?_)
  rw [b_and, b_and, b_ushr s (by omega), b_sshr s (by omega) _ hi, b_255]
  by_cases h : i < 8
  · rw [if_pos (by omega)]
  · simp [h]
theorem by4_lt (x : Int32) (j : Nat) : ∃ b, b < 256 ∧ by4 x j = nI b := by
  unfold by4
  obtain ⟨n, _, e⟩ := wb_of32 (x >>> (nI (24 - 8 * j) &&& 31))
  rw [e, show (255 : Int32) = nI (2 ^ 8 - 1) from rfl, fa_mask]
  exact ⟨n % 2 ^ 8, Nat.mod_lt _ (by decide), rfl⟩
/-- four bytes behind the tape: cells ct (place kt) the count, cb the bytes -/
def fed (I J : am_I) (ct kt cb z : Nat) (x : Int32) : Prop := (∀ c, c ≠ ct → c ≠ cb → J c = I c) ∧ (∀ i, i ≠ kt → J ct i = I ct i) ∧ J ct kt = nI (z + 4) ∧ (∀ k, (k < z ∨ z + 4 ≤ k) → J cb k = I cb k) ∧ ∀ j, j < 4 → J cb (z + j) = by4 x j
theorem fed_of {I : am_I} {ct kt cb z : Nat} {x : Int32} (hc : ct ≠ cb) : fed I (am_u (am_u (am_u (am_u (am_u (am_u (am_u (am_u I cb z (by4 x 0)) ct kt (nI (z + 1))) cb (z + 1) (by4 x 1)) ct kt (nI (z + 2))) cb (z + 2) (by4 x 2)) ct kt (nI (z + 3))) cb (z + 3) (by4 x 3)) ct kt (nI (z + 4))) ct kt cb z x := by
  refine ⟨fun c h1 h2 => ?_, fun i hi => ?_, uu_e, fun k hk => ?_, fun j hj => ?_⟩
  · rw [uu_h h1, uu_h h2, uu_h h1, uu_h h2, uu_h h1, uu_h h2, uu_h h1, uu_h h2]
  · rw [uu_n hi, uu_c hc, uu_n hi, uu_c hc, uu_n hi, uu_c hc, uu_n hi, uu_c hc]
  · rw [uu_c hc.symm, uu_n (by omega), uu_c hc.symm, uu_n (by omega), uu_c hc.symm, uu_n (by omega), uu_c hc.symm, uu_n (by omega)]
  · rcases (by omega : j = 0 ∨ j = 1 ∨ j = 2 ∨ j = 3) with rfl | rfl | rfl | rfl
    · rw [uu_c hc.symm, uu_n (by omega), uu_c hc.symm, uu_n (by omega), uu_c hc.symm, uu_n (by omega), uu_c hc.symm]
      exact uu_e
    · rw [uu_c hc.symm, uu_n (by omega), uu_c hc.symm, uu_n (by omega), uu_c hc.symm, uu_e]
    · rw [uu_c hc.symm, uu_n (by omega), uu_c hc.symm, uu_e]
    · rw [uu_c hc.symm, uu_e]
