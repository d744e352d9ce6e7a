/-! WHAT HOLDS BETWEEN THE CALLS. R is the reference's row (cell 68), or an image of it. -/
def PRd (c1 c2 c3 R : Nat → Int32) : Prop := ∃ n w, n ≤ 12 ∧ w < 2 ^ n ∧ c1 2 = nI n ∧ R 0 = nI n ∧ c1 3 = nI w ∧ ∀ d, d < n → R (60 + 3 * d) = nI (bi w d) ∧ ∃ a b, a < 10 ∧ b < 10 ∧ a ≠ b ∧ c2 d = nI a ∧ c3 d = nI b ∧ R (58 + 3 * d) = nI a ∧ R (59 + 3 * d) = nI b
/-- a prisoner's numbers: years, want, place, keys, trusts -/
def PRp (c4 c5 c6 c7 c8 R : Nat → Int32) (p : Nat) : Prop := ∃ y w a k t, 1 ≤ y ∧ y ≤ 99 ∧ w ≤ 9 ∧ a < 10 ∧ k < 4096 ∧ t < 256 ∧ c4 p = nI y ∧ c5 p = nI w ∧ c6 p = nI a ∧ c7 p = nI k ∧ c8 p = nI t ∧ R (26 + p) = nI y ∧ R (34 + p) = nI w ∧ R (10 + p) = nI a ∧ R (18 + p) = nI k ∧ R (42 + p) = nI t
def PRm (c1 c4 c5 c6 c7 c8 R : Nat → Int32) : Prop := ∃ m v, m ≤ 8 ∧ v < 256 ∧ c1 10 = nI m ∧ R 1 = nI m ∧ c1 9 = nI v ∧ ∀ p, p < m → R (50 + p) = nI (bi v p) ∧ PRp c4 c5 c6 c7 c8 R p
def PRc (c1 c9 c10 R : Nat → Int32) : Prop := ∃ c m, c ≤ 8 ∧ m ≤ 8 ∧ c1 13 = nI c ∧ R 2 = nI c ∧ R 1 = nI m ∧ ∀ k, k < c → ∃ g i, g < 2 ^ m ∧ i ≤ 8 ∧ c9 k = nI g ∧ c10 k = nI i ∧ R (94 + 2 * k) = nI g ∧ R (95 + 2 * k) = nI i
def PRl (c1 R : Nat → Int32) : Prop := ∃ l, l ≤ 6 ∧ c1 15 = nI l ∧ R 3 = nI l ∧ c1 16 = R 4 ∧ (R 4 = -1 ∨ ∃ f, f < l ∧ R 4 = nI f)
def PRt (c1 c12 R : Nat → Int32) : Prop := ∃ a b c d e, a ≤ 9999 ∧ 1 ≤ b ∧ b ≤ 6 ∧ c ≤ 10 ∧ d ≤ 9 ∧ e ≤ 99999 ∧ c12 0 = nI a ∧ c12 1 = nI b ∧ c12 2 = nI c ∧ c12 3 = nI d ∧ c1 18 = nI e ∧ R 5 = nI a ∧ R 6 = nI b ∧ R 7 = nI c ∧ R 8 = nI d ∧ R 9 = nI e
/-- the tape -/
def TPr (s m : Int32) (c15 c75 : Nat → Int32) : Prop := ∃ z, z ≤ 400 ∧ s = nI z ∧ m = nI z ∧ ∀ k, k < z → ∃ b, b < 256 ∧ c15 k = nI b ∧ c75 k = nI b
/-- one undoing, on the 21 numbers that can be undone -/
def ust (k w a o b : Int32) (s : Nat → Int32) : Nat → Int32 := fun i => if k = 0 then (if i = 5 + w.toNatClampNeg then a else s i) else if k = 1 then (if i = 13 + o.toNatClampNeg then b else if i = 13 + w.toNatClampNeg then a else s i) else if k = 2 then (if i = 4 then a else s i) else (if i = 0 then a else s i)
/-- an undoing's numbers -/
def usv (m : Nat) (k w a o b : Int32) : Prop := (k = 0 ∧ ∃ p v, p < m ∧ v < 10 ∧ w = nI p ∧ a = nI v) ∨ (k = 1 ∧ ∃ p v q u, p < m ∧ q < m ∧ p ≠ q ∧ v < 4096 ∧ u < 4096 ∧ w = nI p ∧ a = nI v ∧ o = nI q ∧ b = nI u) ∨ (k = 2 ∧ ∃ v, v ≤ 99999 ∧ a = nI v) ∨ (k = 3 ∧ ∃ v, v ≤ 9999 ∧ a = nI v)
def UNr (u1 u2 : Int32) (c30 c31 c32 c33 c34 c71 c72 R : Nat → Int32) : Prop := ∃ u m, u ≤ 16 ∧ m ≤ 8 ∧ R 1 = nI m ∧ u1 = nI u ∧ u2 = nI u ∧ ∀ j, j < u → c72 j = c30 j ∧ usv m (c30 j) (c31 j) (c32 j) (c33 j) (c34 j) ∧ ∀ i, i < 21 → c71 (21 * j + i) = ust (c30 j) (c31 j) (c32 j) (c33 j) (c34 j) (fun i => if j + 1 = u then R (5 + i) else c71 (21 * (j + 1) + i)) i
/-- the latest nights -/
def NTr (p b d e : Int32) (c64 c98 : Nat → Int32) : Prop := (p = 0 ∧ e = -1) ∨ ∃ m, 1 ≤ m ∧ m ≤ 8 ∧ p = nI m ∧ e = nI m ∧ b = d ∧ ∀ k, k < m → c64 k = c98 k
/-- status, refusals, rats, fault, stopped -/
def MSr (c0 c65 c66 c67 : Nat → Int32) : Prop := c0 12 = c66 1 ∧ c65 0 = c67 1 ∧ c65 1 = c67 2 ∧ c65 2 = c67 3 ∧ c65 3 = c67 5 ∧ c65 4 = c67 6 ∧ c0 13 = c66 11
/-- words of the reference -/
def LWr (L : am_J) : Prop := L 81 = hl_62 81 ∧ L 82 = hl_62 82 ∧ L 83 = hl_62 83
def StR (I : am_I) (L : am_J) : Prop :=
  PRd (I 1) (I 2) (I 3) (I 68) ∧ PRm (I 1) (I 4) (I 5) (I 6) (I 7) (I 8) (I 68) ∧ PRc (I 1) (I 9) (I 10) (I 68) ∧ PRl (I 1) (I 68) ∧ PRt (I 1) (I 12) (I 68) ∧
  TPr (I 14 1) (I 66 13) (I 15) (I 75) ∧ UNr (I 29 0) (I 66 8) (I 30) (I 31) (I 32) (I 33) (I 34) (I 71) (I 72) (I 68) ∧ NTr (I 63 0) (I 63 1) (I 66 60) (I 66 61) (I 64) (I 98) ∧ MSr (I 0) (I 65) (I 66) (I 67) ∧
  I 14 2 = I 66 18 ∧ I 35 1 = I 66 56 ∧ I 66 20 = 0 ∧ I 92 0 = 0 ∧ LWr L
abbrev am_P : Type := Nat → (Nat → Nat × Nat) → (Nat → Nat → Option Nat) → am_I → am_J → Prop
/-- what is said of the cells from 99 on (laws' texts, images, the rota that is kept) stays where these stay -/
def FrI (I I' : am_I) : Prop := (∀ a, 99 ≤ a → I' a = I a) ∧ I' 1 15 = I 1 15 ∧ (∀ i, 110 ≤ i → I' 68 i = I 68 i) ∧ I' 69 = I 69 ∧ I' 70 = I 70 ∧ (I' 0 10 = 0 ∨ (I' 0 10 = I 0 10 ∧ I' 1 10 = I 1 10 ∧ I' 1 16 = I 1 16 ∧ I' 4 = I 4 ∧ I' 5 = I 5 ∧ I' 7 = I 7 ∧ I' 12 = I 12))
def FrD (D : am_P) : Prop := ∀ N T r I I' L, FrI I I' → D N T r I L → D N T r I' L
def Inv (D : am_P) : am_P := fun N T r I L => StR I L ∧ D N T r I L
/-! memory -/
theorem uu_c {α : Type} {f : Nat → Nat → α} {a i : Nat} {v : α} {b j : Nat} (h : b ≠ a) : am_u f a i v b j = f b j := by
  unfold am_u
  rw [if_neg h]
theorem uu_n {α : Type} {f : Nat → Nat → α} {a i : Nat} {v : α} {j : Nat} (h : j ≠ i) : am_u f a i v a j = f a j := by
  unfold am_u
  rw [if_pos rfl, if_neg h]
theorem uu_e {α : Type} {f : Nat → Nat → α} {a i : Nat} {v : α} : am_u f a i v a i = v := by
  unfold am_u
  rw [if_pos rfl, if_pos rfl]
theorem uu_h {α : Type} {f : Nat → Nat → α} {a i : Nat} {v : α} {b : Nat} (h : b ≠ a) : am_u f a i v b = f b := by
  funext j
  exact uu_c h
/-! a refusal on both sides -/
theorem rf1 {I : am_I} {K : Int32 → am_I → Prop} (h : K (-1) (am_u (am_u I 0 12 (-1)) 65 0 (I 65 0 + 1))) : w_14 (-1) I K := by
  unfold w_14
  rw [if_neg (by decide), if_neg (by decide), if_neg (by decide)]
  exact ⟨by decide, by decide, h⟩
theorem rf2 {I : am_I} {K : Int32 → am_I → Prop} (h : K (-2) (am_u (am_u I 0 12 (-2)) 65 1 (I 65 1 + 1))) : w_14 (-2) I K := by
  unfold w_14
  rw [if_neg (by decide), if_neg (by decide), if_neg (by decide)]
  exact ⟨by decide, by decide, h⟩
theorem rf3 {I : am_I} {K : Int32 → am_I → Prop} (h : K (-3) (am_u (am_u I 0 12 (-3)) 65 2 (I 65 2 + 1))) : w_14 (-3) I K := by
  unfold w_14
  rw [if_neg (by decide), if_neg (by decide), if_neg (by decide)]
  exact ⟨by decide, by decide, h⟩
theorem rf5 {I : am_I} {K : Int32 → am_I → Prop} (h : K (-5) (am_u (am_u I 0 12 (-5)) 65 3 (I 65 3 + 1))) : w_14 (-5) I K := by
  unfold w_14
  rw [if_pos (by decide), if_neg (by decide), if_neg (by decide)]
  exact ⟨by decide, by decide, h⟩
theorem rf6 {I : am_I} {K : Int32 → am_I → Prop} (h : K (-6) (am_u (am_u I 0 12 (-6)) 65 4 (I 65 4 + 1))) : w_14 (-6) I K := by
  unfold w_14
  rw [if_pos (by decide), if_neg (by decide), if_neg (by decide)]
  exact ⟨by decide, by decide, h⟩
theorem tl1 {I : am_I} {K : Int32 → am_I → Prop} (h : K (-1) (am_u (am_u I 66 1 (-1)) 67 1 (I 67 1 + 1))) : w_179 (-1) I K := by
  unfold w_179
  rw [if_neg (by decide), if_neg (by decide)]
  exact ⟨by decide, by decide, h⟩
theorem tl2 {I : am_I} {K : Int32 → am_I → Prop} (h : K (-2) (am_u (am_u I 66 1 (-2)) 67 2 (I 67 2 + 1))) : w_179 (-2) I K := by
  unfold w_179
  rw [if_neg (by decide), if_neg (by decide)]
  exact ⟨by decide, by decide, h⟩
theorem tl3 {I : am_I} {K : Int32 → am_I → Prop} (h : K (-3) (am_u (am_u I 66 1 (-3)) 67 3 (I 67 3 + 1))) : w_179 (-3) I K := by
  unfold w_179
  rw [if_neg (by decide), if_neg (by decide)]
  exact ⟨by decide, by decide, h⟩
theorem tl5 {I : am_I} {K : Int32 → am_I → Prop} (h : K (-5) (am_u (am_u I 66 1 (-5)) 67 5 (I 67 5 + 1))) : w_179 (-5) I K := by
  unfold w_179
  rw [if_neg (by decide), if_neg (by decide)]
  exact ⟨by decide, by decide, h⟩
theorem tl6 {I : am_I} {K : Int32 → am_I → Prop} (h : K (-6) (am_u (am_u I 66 1 (-6)) 67 6 (I 67 6 + 1))) : w_179 (-6) I K := by
  unfold w_179
  rw [if_neg (by decide), if_neg (by decide)]
  exact ⟨by decide, by decide, h⟩
/-- an answer that is no refusal -/
theorem tl0 {x : Int32} {I : am_I} {K : Int32 → am_I → Prop} (hx : 0 ≤ x) (h : K x (am_u I 66 1 0)) : w_179 x I K := by
  unfold w_179
  rw [if_pos hx, if_pos hx]
  exact h
theorem fr0 {I I' : am_I} (h0 : ∀ a, a ≠ 0 → a ≠ 65 → a ≠ 66 → a ≠ 67 → I' a = I a) (h1 : I' 0 10 = I 0 10) : FrI I I' := by
  refine ⟨fun a ha => h0 a (by omega) (by omega) (by omega) (by omega), ?_, fun i _ => ?_, h0 69 (by decide) (by decide) (by decide) (by decide), h0 70 (by decide) (by decide) (by decide) (by decide), Or.inr ⟨h1, ?_, ?_, h0 4 (by decide) (by decide) (by decide) (by decide), h0 5 (by decide) (by decide) (by decide) (by decide), h0 7 (by decide) (by decide) (by decide) (by decide), h0 12 (by decide) (by decide) (by decide) (by decide)⟩⟩
  · rw [h0 1 (by decide) (by decide) (by decide) (by decide)]
  · rw [h0 68 (by decide) (by decide) (by decide) (by decide)]
  · rw [h0 1 (by decide) (by decide) (by decide) (by decide)]
  · rw [h0 1 (by decide) (by decide) (by decide) (by decide)]
/-- both refused by the same number: all else stands -/
theorem inv_rf {D : am_P} (hD : FrD D) {N : Nat} {T : Nat → Nat × Nat} {r : Nat → Nat → Option Nat} {I : am_I} {L : am_J} (h : Inv D N T r I L) (v : Int32) (k k' : Nat) (hk : (k = 0 ∧ k' = 1) ∨ (k = 1 ∧ k' = 2) ∨ (k = 2 ∧ k' = 3) ∨ (k = 3 ∧ k' = 5) ∨ (k = 4 ∧ k' = 6)) : Inv D N T r (am_u (am_u (am_u (am_u (am_u I 0 12 v) 65 k (I 65 k + 1)) 66 0 0) 66 1 v) 67 k' (I 67 k' + 1)) L := by
  obtain ⟨⟨h1, h2, h3, h4, h5, h6, h7, h8, h9, h10⟩, hd⟩ := h
  refine ⟨⟨h1, h2, h3, h4, h5, h6, h7, h8, ?_, h10⟩, hD _ _ _ I _ _ (fr0 ?_ rfl) hd⟩
  · obtain ⟨a1, a2, a3, a4, a5, a6, a7⟩ := h9
    rcases hk with ⟨rfl, rfl⟩ | ⟨rfl, rfl⟩ | ⟨rfl, rfl⟩ | ⟨rfl, rfl⟩ | ⟨rfl, rfl⟩
    · exact ⟨rfl, (show I 65 0 + 1 = I 67 1 + 1 by rw [a2]), a3, a4, a5, a6, a7⟩
    · exact ⟨rfl, a2, (show I 65 1 + 1 = I 67 2 + 1 by rw [a3]), a4, a5, a6, a7⟩
    · exact ⟨rfl, a2, a3, (show I 65 2 + 1 = I 67 3 + 1 by rw [a4]), a5, a6, a7⟩
    · exact ⟨rfl, a2, a3, a4, (show I 65 3 + 1 = I 67 5 + 1 by rw [a5]), a6, a7⟩
    · exact ⟨rfl, a2, a3, a4, a5, (show I 65 4 + 1 = I 67 6 + 1 by rw [a6]), a7⟩
  · intro a g0 g1 g2 g3
    rw [uu_h g3, uu_h g2, uu_h g2, uu_h g1, uu_h g0]
/-- a call that only looks -/
theorem inv_0 {D : am_P} (hD : FrD D) {N : Nat} {T : Nat → Nat × Nat} {r : Nat → Nat → Option Nat} {I : am_I} {L : am_J} (h : Inv D N T r I L) : Inv D N T r (am_u I 66 0 0) L := by
  obtain ⟨⟨h1, h2, h3, h4, h5, h6, h7, h8, h9, h10⟩, hd⟩ := h
  refine ⟨⟨h1, h2, h3, h4, h5, h6, h7, h8, h9, h10⟩, hD _ _ _ I _ _ (fr0 ?_ rfl) hd⟩
  intro a g0 g1 g2 g3
  rw [uu_h g2]
