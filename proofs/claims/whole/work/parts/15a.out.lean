/-! out -/
theorem inv_scr {D : am_P} (hD : FrD D) {N : Nat} {T : Nat → Nat × Nat} {r : Nat → Nat → Option Nat} {I J : am_I} {L : am_J} (h : Inv D N T r I L) (k : ∀ c, (c ≤ 12 ∨ c = 14 ∨ c = 15 ∨ (29 ≤ c ∧ c ≤ 35) ∨ (63 ≤ c ∧ c ≤ 72) ∨ c = 75 ∨ c = 92 ∨ 98 ≤ c) → J c = I c) : Inv D N T r J L := by
  obtain ⟨hs, hdd⟩ := h
  refine ⟨?_, hD _ _ _ I _ _ ⟨fun c hc => k c (by omega), by rw [k 1 (by omega)], fun i _ => by rw [k 68 (by omega)], k 69 (by omega), k 70 (by omega), Or.inr ⟨by rw [k 0 (by omega)], by rw [k 1 (by omega)], by rw [k 1 (by omega)], k 4 (by omega), k 5 (by omega), k 7 (by omega), k 12 (by omega)⟩⟩ hdd⟩
  unfold StR at hs ⊢
  rw [k 0 (by omega), k 1 (by omega), k 2 (by omega), k 3 (by omega), k 4 (by omega), k 5 (by omega), k 6 (by omega), k 7 (by omega), k 8 (by omega), k 9 (by omega), k 10 (by omega), k 12 (by omega), k 14 (by omega), k 15 (by omega), k 29 (by omega), k 30 (by omega), k 31 (by omega), k 32 (by omega), k 33 (by omega), k 34 (by omega), k 35 (by omega), k 63 (by omega), k 64 (by omega), k 65 (by omega), k 66 (by omega), k 67 (by omega), k 68 (by omega), k 71 (by omega), k 72 (by omega), k 75 (by omega), k 92 (by omega), k 98 (by omega)]
  exact hs
def alb (P : Nat → Bool) : Nat → Bool
  | 0 => true
  | n + 1 => alb P n && P n
theorem alb_no {P : Nat → Bool} {k : Nat} (hk : P k = false) : ∀ {n : Nat}, k < n → alb P n = false
  | 0, h => absurd h (by omega)
  | n + 1, h => by
    show (alb P n && P n) = false
    by_cases e : k = n
    · subst e
      rw [hk, Bool.and_false]
    · rw [alb_no hk (show k < n by omega), Bool.false_and]
theorem bi_an (g s k : Nat) (hk : k < 32) : bi (g &&& (s ^^^ 4294967295)) k + bi (g &&& s) k = bi g k := by
  rw [bi_tb, bi_tb, bi_tb, Nat.testBit_and, Nat.testBit_and, Nat.testBit_xor, show (4294967295 : Nat) = 2 ^ 32 - 1 from rfl, Nat.testBit_two_pow_sub_one]
  cases g.testBit k <;> cases s.testBit k <;> simp [hk]
theorem pcn_an (g s : Nat) : ∀ k, k ≤ 32 → pcn (g &&& (s ^^^ 4294967295)) k + pcn (g &&& s) k = pcn g k
  | 0, _ => rfl
  | k + 1, h => by
    have a := pcn_an g s k (by omega)
    have b := bi_an g s k (by omega)
    show pcn (g &&& (s ^^^ 4294967295)) k + bi (g &&& (s ^^^ 4294967295)) k + (pcn (g &&& s) k + bi (g &&& s) k) = pcn g k + bi g k
    omega
theorem pc_an (g s : Nat) : pc (g &&& (s ^^^ 4294967295)) + pc (g &&& s) = pc g := pcn_an g s 12 (by decide)
/-- whether a count is so, those of s being out -/
def ftk (R : Nat → Int32) (s k : Nat) : Bool := decide (pc (Int32.toNatClampNeg (R (94 + 2 * k))) = pc (Int32.toNatClampNeg (R (94 + 2 * k)) &&& s) + Int32.toNatClampNeg (R (95 + 2 * k)))
def fit (R : Nat → Int32) (c s : Nat) : Bool := alb (ftk R s) c
theorem l158 {I : am_I} {c m s : Nat} {E R : Int32 → Prop} (hc : c ≤ 8) (hm : m ≤ 8) (e1 : I 1 13 = nI c) (hp : ∀ k, k < c → ∃ g i, g < 2 ^ m ∧ i ≤ 8 ∧ I 9 k = nI g ∧ I 10 k = nI i ∧ I 68 (94 + 2 * k) = nI g ∧ I 68 (95 + 2 * k) = nI i) (hE : fit (I 68) c s = true → E (nI c)) (hR : fit (I 68) c s = false → R 0) : ∀ k j, j + k = c → fit (I 68) j s = true → lw_158_2 (k + 1) (nI s) (nI j) I E R
  | 0, j, h, hf => by
    have hj : j = c := by omega
    subst hj
    unfold lw_158_2
    rw [if_pos (by rw [e1]; exact nI_le (Nat.le_refl _) (by omega))]
    exact hE hf
  | k + 1, j, h, hf => by
    have ih := l158 hc hm e1 hp hE hR k (j + 1) (by omega)
    unfold lw_158_2
    rw [if_neg (by rw [e1]; exact nI_ge (by omega) (by omega))]
    have g8 : ¬ (nI j < 0 ∨ 8 ≤ Int32.toNatClampNeg (nI j)) := nb_gd (by omega) (by decide)
    refine ⟨g8, g8, ?_⟩
    rw [nI_clamp (by omega)]
    obtain ⟨g, i, hg, hi, a1, a2, a3, a4⟩ := hp j (by omega)
    have p2 : 2 ^ m ≤ 256 := Nat.pow_le_pow_right (n := 2) (j := 8) (by decide) hm
    have gl : g &&& (s ^^^ 4294967295) < 4096 := Nat.lt_of_le_of_lt Nat.and_le_left (by omega)
    rw [a1, a2, show (-1 : Int32) = nI 4294967295 from rfl, nx_xor, nx_and, q111 gl]
    have an := pc_an g s
    have pl := pc_le g
    have ft : ftk (I 68) s j = decide (pc (g &&& (s ^^^ 4294967295)) = i) := by
      unfold ftk
      rw [a3, a4, nI_clamp (by omega), nI_clamp (by omega)]
      by_cases z : pc (g &&& (s ^^^ 4294967295)) = i
      · rw [decide_eq_true z, decide_eq_true (by omega)]
      · rw [decide_eq_false z, decide_eq_false (by omega)]
    by_cases z : pc (g &&& (s ^^^ 4294967295)) = i
    · rw [if_pos (by rw [z]), ← nI_succ]
      refine ih ?_
      show (fit (I 68) j s && ftk (I 68) s j) = true
      rw [hf, ft, decide_eq_true z]
      rfl
    · rw [if_neg (fun q => z ((nb_inj (by omega) (by omega)).mp q))]
      refine hR (alb_no (k := j) ?_ (by omega))
      rw [ft, decide_eq_false z]
theorem q158 {I : am_I} {c m s : Nat} {K : Int32 → Prop} (hc : c ≤ 8) (hm : m ≤ 8) (e1 : I 1 13 = nI c) (hp : ∀ k, k < c → ∃ g i, g < 2 ^ m ∧ i ≤ 8 ∧ I 9 k = nI g ∧ I 10 k = nI i ∧ I 68 (94 + 2 * k) = nI g ∧ I 68 (95 + 2 * k) = nI i) (hK : K (b1 (fit (I 68) c s))) : w_158 (nI s) I K := by
  unfold w_158
  refine ⟨c + 1, l158 (E := fun _ => K 1) (R := K) hc hm e1 hp (fun z => ?_) (fun z => ?_) c 0 (by omega) rfl⟩
  · rw [z] at hK
    exact hK
  · rw [z] at hK
    exact hK
theorem l284 {I : am_I} {c m s : Nat} {E : Int32 → Int32 → Prop} (hc : c ≤ 8) (hm : m ≤ 8) (hs : s < 256) (e1 : I 68 2 = nI c) (hp : ∀ k, k < c → ∃ g i, g < 2 ^ m ∧ i ≤ 8 ∧ I 68 (94 + 2 * k) = nI g ∧ I 68 (95 + 2 * k) = nI i) (hE : E (b1 (fit (I 68) c s)) (nI c)) : ∀ k j, j + k = c → lw_284_4 (k + 1) (nI s) (b1 (fit (I 68) j s)) (nI j) I E
  | 0, j, h => by
    have hj : j = c := by omega
    subst hj
    unfold lw_284_4
    rw [if_pos (by rw [e1]; exact nI_le (Nat.le_refl _) (by omega))]
    exact hE
  | k + 1, j, h => by
    have ih := l284 hc hm hs e1 hp hE k (j + 1) (by omega)
    unfold lw_284_4
    rw [if_neg (by rw [e1]; exact nI_ge (by omega) (by omega))]
    obtain ⟨g, i, hg, hi, a3, a4⟩ := hp j (by omega)
    have x0 : (94 : Int32) + 2 * nI j = nI (94 + 2 * j) := by
      rw [show (94 : Int32) = nI 94 from rfl, show (2 : Int32) = nI 2 from rfl, nb_mul, nb_add]
    have x1 : (94 : Int32) + 2 * nI j + 1 = nI (95 + 2 * j) := by
      rw [x0, show (1 : Int32) = nI 1 from rfl, nb_add, show 94 + 2 * j + 1 = 95 + 2 * j by omega]
    have p2 : 2 ^ m ≤ 256 := Nat.pow_le_pow_right (n := 2) (j := 8) (by decide) hm
    refine ⟨nb_gdx x0 (by omega) (by decide), ?_⟩
    rw [nb_cl x0 (by omega), a3, ← nI_succ]
    have es : fit (I 68) (j + 1) s = (fit (I 68) j s && ftk (I 68) s j) := rfl
    rw [es] at ih
    cases hb : fit (I 68) j s with
    | false =>
      rw [if_pos (by decide)]
      rw [hb, Bool.false_and] at ih
      exact ih
    | true =>
      rw [if_neg (by decide)]
      rw [hb, Bool.true_and] at ih
      refine q236 (by omega) ?_
      rw [nx_and]
      have gl : g &&& s < 4096 := Nat.lt_of_le_of_lt Nat.and_le_left (by omega)
      refine q236 (by omega) ?_
      refine ⟨nb_gdx x1 (by omega) (by decide), ?_⟩
      rw [nb_cl x1 (by omega), a4]
      have an := pc_an g s
      have pl := pc_le g
      rw [nb_sub (by omega)]
      have ft : ftk (I 68) s j = decide (pc g = pc (g &&& s) + i) := by
        unfold ftk
        rw [a3, a4, nI_clamp (by omega), nI_clamp (by omega)]
      rw [ft] at ih
      by_cases z : pc g = pc (g &&& s) + i
      · rw [if_pos (by rw [show pc g - pc (g &&& s) = i by omega])]
        rw [decide_eq_true z] at ih
        exact ih
      · rw [if_neg (fun q => z (by
          have q := (nb_inj (by omega) (by omega)).mp q
          omega))]
        rw [decide_eq_false z] at ih
        exact ih
theorem q284 {I : am_I} {c m s : Nat} {K : Int32 → Prop} (hc : c ≤ 8) (hm : m ≤ 8) (hs : s < 256) (e1 : I 68 2 = nI c) (hp : ∀ k, k < c → ∃ g i, g < 2 ^ m ∧ i ≤ 8 ∧ I 68 (94 + 2 * k) = nI g ∧ I 68 (95 + 2 * k) = nI i) (hK : K (b1 (fit (I 68) c s))) : w_284 (nI s) I K := by
  unfold w_284
  exact ⟨c + 1, l284 (E := fun o3 o4 => (o3 = 0 ∨ o3 = 1) ∧ K o3) hc hm hs e1 hp ⟨b1_01 _, hK⟩ c 0 (by omega)⟩
