/-! keys that one may use: one's own and those of all who trust one -/
def kun (k t : Nat → Int32) (p : Nat) : Nat → Nat
  | 0 => Int32.toNatClampNeg (k p)
  | j + 1 => if f_20 (t j) (nI p) = 1 then kun k t p j ||| Int32.toNatClampNeg (k j) else kun k t p j
theorem kun_lt {k t : Nat → Int32} {p : Nat} {m : Nat} (hp : p < m) (h : ∀ q, q < m → ∃ x, x < 4096 ∧ k q = nI x) : ∀ j, j ≤ m → kun k t p j < 4096
  | 0, _ => by
    obtain ⟨x, hx, e⟩ := h p hp
    show Int32.toNatClampNeg (k p) < 4096
    rw [e, nI_clamp (by omega)]
    exact hx
  | j + 1, hj => by
    have ih := kun_lt (t := t) hp h j (by omega)
    obtain ⟨x, hx, e⟩ := h j (by omega)
    show (if f_20 (t j) (nI p) = 1 then kun k t p j ||| Int32.toNatClampNeg (k j) else kun k t p j) < 4096
    split
    · rw [e, nI_clamp (by omega)]
      exact Nat.or_lt_two_pow (n := 12) ih hx
    · exact ih
theorem kun_cong {k t k' t' : Nat → Int32} {p m : Nat} (hp : p < m) (h : ∀ q, q < m → k q = k' q ∧ t q = t' q) : ∀ j, j ≤ m → kun k t p j = kun k' t' p j
  | 0, _ => by
    show Int32.toNatClampNeg (k p) = Int32.toNatClampNeg (k' p)
    rw [(h p hp).1]
  | j + 1, hj => by
    show (if f_20 (t j) (nI p) = 1 then kun k t p j ||| Int32.toNatClampNeg (k j) else kun k t p j) = (if f_20 (t' j) (nI p) = 1 then kun k' t' p j ||| Int32.toNatClampNeg (k' j) else kun k' t' p j)
    rw [kun_cong hp h j (by omega), (h j (by omega)).1, (h j (by omega)).2]
theorem l127 {I : am_I} {m p : Nat} {E : Int32 → Int32 → Prop} (hm : m ≤ 8) (em : I 1 10 = nI m) (hk : ∀ q, q < m → ∃ x, x < 4096 ∧ I 7 q = nI x) (hE : E (nI (kun (I 7) (I 8) p m)) (nI m)) : ∀ k j, j + k = m → lw_127_9 (k + 1) (nI p) (nI (kun (I 7) (I 8) p j)) (nI j) I E
  | 0, j, h => by
    have hj : j = m := by omega
    subst hj
    unfold lw_127_9
    rw [em, if_pos (nI_le (Nat.le_refl _) (by omega))]
    exact hE
  | k + 1, j, h => by
    have ih := l127 hm em hk hE k (j + 1) (by omega)
    obtain ⟨x, hx, e⟩ := hk j (by omega)
    unfold lw_127_9
    rw [em, if_neg (nI_ge (by omega) (by omega))]
    have g8 : ¬ (nI j < 0 ∨ 8 ≤ Int32.toNatClampNeg (nI j)) := nb_gd (by omega) (by decide)
    refine ⟨g8, ?_⟩
    rw [nI_clamp (by omega : j < 2 ^ 31)] at g8 ⊢
    rw [← nI_succ]
    have ek : kun (I 7) (I 8) p (j + 1) = (if f_20 (I 8 j) (nI p) = 1 then kun (I 7) (I 8) p j ||| Int32.toNatClampNeg (I 7 j) else kun (I 7) (I 8) p j) := rfl
    rw [ek] at ih
    by_cases z : f_20 (I 8 j) (nI p) = 1
    · rw [if_pos z]
      rw [if_pos z, e, nI_clamp (by omega)] at ih
      refine ⟨g8, ?_⟩
      rw [e, fa_or]
      exact ih
    · rw [if_neg z]
      rw [if_neg z] at ih
      exact ih
/-- the doors that one may go by: keys less walls -/
theorem q127 {I : am_I} {m p w : Nat} {K : Int32 → Prop} (hm : m ≤ 8) (hp : p < m) (em : I 1 10 = nI m) (ew : I 1 3 = nI w) (hk : ∀ q, q < m → ∃ x, x < 4096 ∧ I 7 q = nI x) (hK : K (nI (kun (I 7) (I 8) p m &&& (w ^^^ 4294967295)))) : w_127 (nI p) I K := by
  unfold w_127
  refine ⟨nb_gd (by omega) (by decide), m + 1, ?_⟩
  obtain ⟨x, hx, e⟩ := hk p hp
  have e0 : I 7 (Int32.toNatClampNeg (nI p)) = nI (kun (I 7) (I 8) p 0) := by
    show I 7 (Int32.toNatClampNeg (nI p)) = nI (Int32.toNatClampNeg (I 7 p))
    rw [nI_clamp (by omega), e, nI_clamp (by omega)]
  rw [e0]
  refine l127 hm em hk ?_ m 0 (by omega)
  show K (nI (kun (I 7) (I 8) p m) &&& (I 1 3 ^^^ -1))
  rw [ew, show (-1 : Int32) = nI 4294967295 from rfl, nx_xor, nx_and]
  exact hK
theorem l268 {I : am_I} {m p : Nat} {E : Int32 → Int32 → Prop} (hm : m ≤ 8) (hp : p < m) (em : I 68 1 = nI m) (hk : ∀ q, q < m → ∃ x, x < 4096 ∧ I 68 (18 + q) = nI x) (hE : E (nI (kun (fun q => I 68 (18 + q)) (fun q => I 68 (42 + q)) p m)) (nI m)) : ∀ k j, j + k = m → lw_268_12 (k + 1) (nI p) (nI (kun (fun q => I 68 (18 + q)) (fun q => I 68 (42 + q)) p j)) (nI j) I E
  | 0, j, h => by
    have hj : j = m := by omega
    subst hj
    unfold lw_268_12
    rw [em, if_pos (nI_le (Nat.le_refl _) (by omega))]
    exact hE
  | k + 1, j, h => by
    have ih := l268 hm hp em hk hE k (j + 1) (by omega)
    obtain ⟨x, hx, e⟩ := hk j (by omega)
    unfold lw_268_12 w_249
    rw [em, if_neg (nI_ge (by omega) (by omega))]
    obtain ⟨g4, k4⟩ := ixa (a := 42) (n := j) (by omega)
    obtain ⟨g1, k1⟩ := ixa (a := 18) (n := j) (by omega)
    have k4 : Int32.toNatClampNeg (42 + nI j) = 42 + j := k4
    have k1 : Int32.toNatClampNeg (18 + nI j) = 18 + j := k1
    refine ⟨g4, ?_⟩
    rw [k4, q248]
    refine ⟨b1_01 _, ?_⟩
    rw [← nI_succ]
    have ek : kun (fun q => I 68 (18 + q)) (fun q => I 68 (42 + q)) p (j + 1) = (if f_20 (I 68 (42 + j)) (nI p) = 1 then kun (fun q => I 68 (18 + q)) (fun q => I 68 (42 + q)) p j ||| Int32.toNatClampNeg (I 68 (18 + j)) else kun (fun q => I 68 (18 + q)) (fun q => I 68 (42 + q)) p j) := rfl
    rw [ek] at ih
    by_cases z : f_20 (I 68 (42 + j)) (nI p) = 1
    · rw [if_pos z, e, nI_clamp (by omega)] at ih
      refine am_ifn (show ¬ b1 (decide (f_20 (I 68 (42 + j)) (nI p) = 1)) = 0 by rw [b1_z]; simp [z]) ⟨g1, ?_⟩
      rw [k1, e, fa_or]
      exact ih
    · rw [if_neg z] at ih
      refine am_ifp (show b1 (decide (f_20 (I 68 (42 + j)) (nI p) = 1)) = 0 by rw [b1_z]; simp [z]) ?_
      rw [show (0 : Int32) = nI 0 from rfl, fa_or, Nat.or_zero]
      exact ih
theorem q268 {I : am_I} {m p : Nat} {K : Int32 → Prop} (hm : m ≤ 8) (hp : p < m) (em : I 68 1 = nI m) (hk : ∀ q, q < m → ∃ x, x < 4096 ∧ I 68 (18 + q) = nI x) (hK : K (nI (kun (fun q => I 68 (18 + q)) (fun q => I 68 (42 + q)) p m))) : w_268 (nI p) I K := by
  unfold w_268
  obtain ⟨g1, k1⟩ := ixa (a := 18) (n := p) (by omega)
  obtain ⟨x, hx, e⟩ := hk p hp
  refine ⟨g1, m + 1, ?_⟩
  have e0 : I 68 (Int32.toNatClampNeg (18 + nI p)) = nI (kun (fun q => I 68 (18 + q)) (fun q => I 68 (42 + q)) p 0) := by
    show I 68 (Int32.toNatClampNeg (18 + nI p)) = nI (Int32.toNatClampNeg (I 68 (18 + p)))
    rw [show Int32.toNatClampNeg (18 + nI p) = 18 + p from k1, e, nI_clamp (by omega)]
  rw [e0]
  exact l268 (E := fun o2 _ => K o2) hm hp em hk hK m 0 (by omega)
