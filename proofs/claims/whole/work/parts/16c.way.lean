/-! the way, by the class: places reached in so many doors -/
theorem odo_lt {a b : Nat → Int32} {U R n : Nat} (hR : R < 1024) (hp : ∀ d, d < n → ∃ y z, y < 10 ∧ z < 10 ∧ a d = nI y ∧ b d = nI z) : ∀ j, j ≤ n → odo a b U R j < 1024
  | 0, _ => hR
  | j + 1, hj => by
    have ih := odo_lt (U := U) hR hp j (by omega)
    obtain ⟨y, z, hy, hz, ey, ez⟩ := hp j (by omega)
    show (if (bi R (Int32.toNatClampNeg (a j)) = 1 ∨ bi R (Int32.toNatClampNeg (b j)) = 1) ∧ bi U j = 1 then odo a b U R j ||| (2 ^ Int32.toNatClampNeg (a j) ||| 2 ^ Int32.toNatClampNeg (b j)) else odo a b U R j) < 1024
    rw [ey, ez, nI_clamp (by omega), nI_clamp (by omega)]
    split
    · exact Nat.or_lt_two_pow (n := 10) ih (Nat.or_lt_two_pow (n := 10) (Nat.pow_lt_pow_right (by decide) (by omega)) (Nat.pow_lt_pow_right (by decide) (by omega)))
    · exact ih
def rch (a b : Nat → Int32) (U n x : Nat) : Nat → Nat
  | 0 => 2 ^ x
  | k + 1 => odo a b U (rch a b U n x k) n
theorem rch_lt {a b : Nat → Int32} {U n x : Nat} (hx : x < 10) (hp : ∀ d, d < n → ∃ y z, y < 10 ∧ z < 10 ∧ a d = nI y ∧ b d = nI z) : ∀ k, rch a b U n x k < 1024
  | 0 => by
    have q : 2 ^ x < 2 ^ 10 := Nat.pow_lt_pow_right (by decide) hx
    exact q
  | k + 1 => odo_lt (rch_lt hx hp k) hp n (Nat.le_refl n)
theorem l126 {I : am_I} {n U x : Nat} {E : Int32 → Int32 → Prop} {R : Int32 → Prop} (hn : n ≤ 12) (en : I 1 2 = nI n) (hU : U < 2 ^ 31) (hx : x < 10) (hp : ∀ d, d < n → ∃ y z, y < 10 ∧ z < 10 ∧ I 2 d = nI y ∧ I 3 d = nI z) (hE : (∀ k, k < 10 → bi (rch (I 2) (I 3) U n x k) 0 = 0) → ∀ w, E w (nI 10)) (hR : ∀ k, k < 10 → bi (rch (I 2) (I 3) U n x k) 0 = 1 → (∀ j, j < k → bi (rch (I 2) (I 3) U n x j) 0 = 0) → R (nI k)) : ∀ k j, j + k = 10 → (∀ i, i < j → bi (rch (I 2) (I 3) U n x i) 0 = 0) → lw_126_19 (k + 1) (nI U) (nI (rch (I 2) (I 3) U n x j)) (nI j) I E R
  | 0, j, h, hz => by
    have hj : j = 10 := by omega
    subst hj
    unfold lw_126_19
    rw [if_pos (show (10 : Int32) ≤ nI 10 from nI_le (a := 10) (Nat.le_refl _) (by decide))]
    exact hE hz _
  | k + 1, j, h, hz => by
    have ih := l126 hn en hU hx hp hE hR k (j + 1) (by omega)
    have rl := rch_lt (U := U) hx hp j
    unfold lw_126_19
    rw [if_neg (show ¬ (10 : Int32) ≤ nI j from nI_ge (b := 10) (by omega) (by decide))]
    rw [show (0 : Int32) = nI 0 from rfl, q20 (by omega) (by decide)]
    have bl := bi_lt (rch (I 2) (I 3) U n x j) 0
    rcases (by omega : bi (rch (I 2) (I 3) U n x j) 0 = 0 ∨ bi (rch (I 2) (I 3) U n x j) 0 = 1) with z | z
    · rw [if_neg (by rw [z]; decide)]
      refine q128 hn en hU (by omega) hp ?_
      rw [← nI_succ]
      refine ih (fun i hi => ?_)
      by_cases e : i = j
      · rw [e]
        exact z
      · exact hz i (by omega)
    · rw [if_pos (by rw [z]; rfl)]
      exact hR j (by omega) z hz
/-- the fewest doors to outside, by the class -/
theorem q126 {I : am_I} {m n p w x : Nat} {K : Int32 → Prop} (hm : m ≤ 8) (hpm : p < m) (hn : n ≤ 12) (em : I 1 10 = nI m) (en : I 1 2 = nI n) (ew : I 1 3 = nI w) (hx : x < 10) (ex : I 6 p = nI x) (hk : ∀ q, q < m → ∃ x, x < 4096 ∧ I 7 q = nI x) (hp : ∀ d, d < n → ∃ y z, y < 10 ∧ z < 10 ∧ I 2 d = nI y ∧ I 3 d = nI z)
    (hE : (∀ k, k < 10 → bi (rch (I 2) (I 3) (kun (I 7) (I 8) p m &&& (w ^^^ 4294967295)) n x k) 0 = 0) → K (-1)) (hR : ∀ k, k < 10 → bi (rch (I 2) (I 3) (kun (I 7) (I 8) p m &&& (w ^^^ 4294967295)) n x k) 0 = 1 → (∀ j, j < k → bi (rch (I 2) (I 3) (kun (I 7) (I 8) p m &&& (w ^^^ 4294967295)) n x j) 0 = 0) → K (nI k)) : w_126 (nI p) I K := by
  unfold w_126
  refine q127 hm hpm em ew hk ?_
  refine ⟨nb_gd (by omega) (by decide), 11, ?_⟩
  have kl := kun_lt (t := I 8) hpm hk m (Nat.le_refl m)
  have ul : kun (I 7) (I 8) p m &&& (w ^^^ 4294967295) < 2 ^ 31 := Nat.lt_of_le_of_lt Nat.and_le_left (by omega)
  rw [nI_clamp (by omega : p < 2 ^ 31), ex, q1s x (by omega)]
  exact l126 (E := fun _ _ => K (-1)) (R := K) hn en ul hx hp (fun z _ => hE z) hR 10 0 (by omega) (fun i hi => absurd hi (by omega))
