/-! nights: draws, and the row on paper -/
def drw (s : Nat) : Nat := (s * 1103 + 12345) % 1000003
theorem drw_lt (s : Nat) : drw s < 1000003 := Nat.mod_lt _ (by decide)
theorem q171 {J : am_I} {m s : Nat} {K : Int32 → am_I → Prop} (m0 : 0 < m) (hm : m < 2 ^ 31) (hs : s ≤ 1000003) (e : J 63 3 = nI s) (hK : K (nI (drw s % m)) (am_u J 63 3 (nI (drw s)))) : w_171 (nI m) J K := by
  unfold w_171
  have d := drw_lt s
  have e1 : (J 63 3) * 1103 + 12345 = nI (s * 1103 + 12345) := by
    rw [e, show nI s * 1103 = nI (s * 1103) from nb_mul s 1103]
    exact nb_add _ 12345
  have e2 : nI (s * 1103 + 12345) - nI (s * 1103 + 12345) / 1000003 * 1000003 = nI (drw s) := pk_rem (d := 1000003) (by omega) (by decide) (by decide)
  rw [e1, e2, if_neg (show ¬ nI m ≤ 0 from nI_ge (a := 0) m0 hm), pk_rem (by omega) m0 hm]
  exact ⟨nz0 hm (by omega), hK⟩
theorem q300 {L : am_J} {m s : Nat} {K : Int32 → am_J → Prop} (m0 : 0 < m) (hm : m < 2 ^ 31) (hs : s ≤ 1000003) (e : L 66 58 = lN s) (hK : K (nI (drw s % m)) (am_u L 66 58 (lN (drw s)))) : w_300 (nI m) L K := by
  unfold w_300
  have d := drw_lt s
  have e1 : (L 66 58) * 1103 + 12345 = lN (s * 1103 + 12345) := by
    rw [e, show lN s * 1103 = lN (s * 1103) from lN_mul s 1103]
    exact (Int64.ofNat_add _ 12345).symm
  have e2 : lN (s * 1103 + 12345) - lN (s * 1103 + 12345) / 1000003 * 1000003 = lN (drw s) := pk_lRem (b := 1000003) (by omega) (by decide) (by decide)
  rw [e1, e2, nI_l hm, pk_lRem (by omega) m0 (by omega), lN_i]
  exact ⟨fun q => by have := (fb_lN_inj (a := m) (b := 0) (by omega) (by decide)).mp q; omega, hK⟩
def upR (R : Nat → Int32) (k : Nat) (v : Int32) : Nat → Int32 := fun i => if i = k then v else R i
theorem upR_e {R : Nat → Int32} {k : Nat} {v : Int32} : upR R k v k = v := if_pos rfl
theorem upR_n {R : Nat → Int32} {k i : Nat} {v : Int32} (h : i ≠ k) : upR R k v i = R i := if_neg h
theorem upR_u {J : am_I} {c k : Nat} {v : Int32} : am_u J c k v c = upR (J c) k v := by
  funext i
  by_cases e : i = k
  · rw [e, uu_e, upR_e]
  · rw [uu_n e, upR_n e]
def ngo (R : Nat → Int32) (m p d : Nat) : Bool := (decide (Int32.toNatClampNeg (R (58 + 3 * d)) = Int32.toNatClampNeg (R (10 + p))) || decide (Int32.toNatClampNeg (R (59 + 3 * d)) = Int32.toNatClampNeg (R (10 + p)))) && opb (decide (¬ R (60 + 3 * d) = 0)) (fun q => R (10 + q)) (fun q => R (18 + q)) (fun q => R (42 + q)) m p d
def ng1 (R : Nat → Int32) (m p d : Nat) : Nat → Int32 := if ngo R m p d = true then upR R (10 + p) (if Int32.toNatClampNeg (R (10 + p)) = Int32.toNatClampNeg (R (58 + 3 * d)) then R (59 + 3 * d) else R (58 + 3 * d)) else R
def nin (R : Nat → Int32) (m : Nat) : Nat := fb_ct (fun p => decide (¬ R (10 + p) = 0)) m
def ng2 (R : Nat → Int32) (m t : Nat) : Nat → Int32 := if nI t < R 7 then upR R 9 (nI (brd (Int32.toNatClampNeg (R 9)) (nin R m) m)) else R
def nS (s : Nat) : Nat → Nat
  | 0 => s
  | i + 1 => drw (drw (drw (nS s i)))
def nR (R : Nat → Int32) (m n s : Nat) : Nat → Nat → Int32
  | 0 => R
  | i + 1 => upR (ng2 (ng1 (nR R m n s i) m (drw (nS s i) % m) (drw (drw (nS s i)) % n)) m (drw (drw (drw (nS s i))) % 10)) 5 (nR R m n s i 5 + 1)
def nC (R : Nat → Int32) (s : Nat) : Nat → Nat
  | 0 => 0
  | i + 1 => nC R s i + (if nI (drw (drw (drw (nS s i))) % 10) < R 7 then 1 else 0)
theorem nS_le {s : Nat} (hs : s ≤ 1000000) : ∀ i, nS s i ≤ 1000003
  | 0 => by
    show s ≤ 1000003
    omega
  | i + 1 => Nat.le_of_lt (drw_lt _)
theorem nC_le (R : Nat → Int32) (s : Nat) : ∀ i, nC R s i ≤ i
  | 0 => Nat.le_refl 0
  | i + 1 => by
    have ih := nC_le R s i
    show nC R s i + (if nI (drw (drw (drw (nS s i))) % 10) < R 7 then 1 else 0) ≤ i + 1
    split <;> omega
/-- a row on paper: like the own one but for places, bread, hour -/
def PN (R0 R : Nat → Int32) (m : Nat) : Prop := (∀ k, k ≠ 5 → k ≠ 9 → (k < 10 ∨ 18 ≤ k) → R k = R0 k) ∧ (∀ q, q < m → ∃ x, x < 10 ∧ R (10 + q) = nI x) ∧ ∃ e, e ≤ 99999 ∧ R 9 = nI e
theorem brd_le (e n m : Nat) : brd e n m ≤ 99999 := Nat.min_le_right _ _
theorem PN_1 {R0 R : Nat → Int32} {m n p d : Nat} (hm : m ≤ 8) (hp : p < m) (hd : d < n) (hdr : ∀ d, d < n → ∃ y z, y < 10 ∧ z < 10 ∧ R0 (58 + 3 * d) = nI y ∧ R0 (59 + 3 * d) = nI z) (h : PN R0 R m) : PN R0 (ng1 R m p d) m := by
  unfold ng1
  by_cases c : ngo R m p d = true
  · rw [if_pos c]
    obtain ⟨h1, h2, h3⟩ := h
    obtain ⟨y, z, hy, hz, ey, ez⟩ := hdr d hd
    refine ⟨fun k k1 k2 k3 => ?_, fun q hq => ?_, ?_⟩
    · rw [upR_n (by omega)]
      exact h1 k k1 k2 k3
    · by_cases e : q = p
      · rw [e, upR_e, h1 (59 + 3 * d) (by omega) (by omega) (by omega), h1 (58 + 3 * d) (by omega) (by omega) (by omega), ey, ez]
        split
        · exact ⟨z, hz, rfl⟩
        · exact ⟨y, hy, rfl⟩
      · rw [upR_n (by omega)]
        exact h2 q hq
    · rw [upR_n (by omega)]
      exact h3
  · rw [if_neg c]
    exact h
theorem PN_2 {R0 R : Nat → Int32} {m t : Nat} (h : PN R0 R m) : PN R0 (ng2 R m t) m := by
  unfold ng2
  split
  · obtain ⟨h1, h2, h3⟩ := h
    refine ⟨fun k k1 k2 k3 => ?_, fun q hq => ?_, ?_⟩
    · rw [upR_n k2]
      exact h1 k k1 k2 k3
    · rw [upR_n (by omega)]
      exact h2 q hq
    · rw [upR_e]
      exact ⟨_, brd_le _ _ _, rfl⟩
  · exact h
theorem PN_3 {R0 R : Nat → Int32} {m : Nat} {v : Int32} (h : PN R0 R m) : PN R0 (upR R 5 v) m := by
  obtain ⟨h1, h2, h3⟩ := h
  refine ⟨fun k k1 k2 k3 => ?_, fun q hq => ?_, ?_⟩
  · rw [upR_n k1]
    exact h1 k k1 k2 k3
  · rw [upR_n (by omega)]
    exact h2 q hq
  · rw [upR_n (by decide)]
    exact h3
theorem PN_n {R : Nat → Int32} {m n s : Nat} (hm : m ≤ 8) (m0 : 0 < m) (n0 : 0 < n) (hdr : ∀ d, d < n → ∃ y z, y < 10 ∧ z < 10 ∧ R (58 + 3 * d) = nI y ∧ R (59 + 3 * d) = nI z) (h : PN R R m) : ∀ i, PN R (nR R m n s i) m
  | 0 => h
  | i + 1 => PN_3 (PN_2 (PN_1 hm (Nat.mod_lt _ m0) (Nat.mod_lt _ n0) hdr (PN_n hm m0 n0 hdr h i)))
theorem nR_5 {R : Nat → Int32} {m n s a : Nat} (e : R 5 = nI a) : ∀ i, nR R m n s i 5 = nI (a + i)
  | 0 => e
  | i + 1 => by
    show upR _ 5 (nR R m n s i 5 + 1) 5 = _
    rw [upR_e, nR_5 e i, ← nI_succ]
    rfl
theorem ng_5 {R : Nat → Int32} {m p d t : Nat} : ng2 (ng1 R m p d) m t 5 = R 5 := by
  have e1 : ng1 R m p d 5 = R 5 := by
    unfold ng1
    split
    · exact upR_n (by omega)
    · rfl
  unfold ng2
  split
  · rw [upR_n (by decide)]
    exact e1
  · exact e1
theorem ng_7 {R : Nat → Int32} {m p d : Nat} : ng1 R m p d 7 = R 7 := by
  unfold ng1
  split
  · exact upR_n (by omega)
  · rfl
/-- whether one can go, where to: class and reference -/
theorem ngo_eq {c1 c4 c5 c6 c7 c8 R0 R pl : Nat → Int32} {m v n w p d x y z : Nat} (hm : m ≤ 8) (hw : w < 2 ^ n) (hn : n ≤ 12) (hd : d < n) (e3 : c1 3 = nI w) (hdd : R0 (60 + 3 * d) = nI (bi w d)) (hp : ∀ p, p < m → R0 (50 + p) = nI (bi v p) ∧ PRp c4 c5 c6 c7 c8 R0 p) (hpm : p < m) (hN : PN R0 R m) (hpl : ∀ q, q < m → pl q = R (10 + q)) : opb (decide (f_20 (c1 3) (nI d) = 1)) pl c7 c8 m p d = opb (decide (¬ R (60 + 3 * d) = 0)) (fun q => R (10 + q)) (fun q => R (18 + q)) (fun q => R (42 + q)) m p d := by
  obtain ⟨h1, h2, h3⟩ := hN
  refine op_eq (c1 := c1) (c4 := c4) (c5 := c5) (c6 := fun q => R (10 + q)) (c7 := c7) (c8 := c8) (R := R) (v := v) hw hn hd e3 (by rw [h1 _ (by omega) (by omega) (by omega)]; exact hdd) (fun q hq => ?_) hpm hpl
  obtain ⟨z1, y', w', a', k', t', b1, b2, b3, b4, b5, b6, q1, q2, q3, q4, q5, s1, s2, s3, s4, s5⟩ := hp q hq
  obtain ⟨x, hx, ex⟩ := h2 q hq
  exact ⟨(h1 _ (by omega) (by omega) (by omega)).trans z1, y', w', x, k', t', b1, b2, b3, hx, b5, b6, q1, q2, ex, q4, q5, (h1 _ (by omega) (by omega) (by omega)).trans s1, (h1 _ (by omega) (by omega) (by omega)).trans s2, ex, (h1 _ (by omega) (by omega) (by omega)).trans s4, (h1 _ (by omega) (by omega) (by omega)).trans s5⟩
