/-! the class reads: its state, its small steps -/
def BC (n : Nat) (C : Nat → Nat) (law : Bool) (B : am_I) : Prop := n ≤ 400 ∧ (∀ k, k ≤ n → B 21 k = nI (C k)) ∧ C n = 3000000 ∧ (∀ k, k < n → C k < 3000000) ∧ B 14 4 = b1 law
theorem BC_le {n : Nat} {C : Nat → Nat} {law : Bool} {B : am_I} (h : BC n C law B) {k : Nat} (hk : k ≤ n) : C k ≤ 3000000 := by
  by_cases e : k = n
  · rw [e, h.2.2.1]
    exact Nat.le_refl _
  · exact Nat.le_of_lt (h.2.2.2.1 k (by omega))
/-- nothing else changed -/
def frC (B G : am_I) : Prop := (∀ c, c ≠ 14 → c ≠ 16 → c ≠ 17 → G c = B c) ∧ (∀ k, k ≠ 7 → k ≠ 8 → k ≠ 9 → G 14 k = B 14 k) ∧ ∀ k, k ≠ 1 → G 16 k = B 16 k
def RD (n : Nat) (C : Nat → Nat) (B : am_I) (i q s : Nat) (M : Nat → Nat × Nat) (G : am_I) : Prop := i ≤ n ∧ q ≤ 50 ∧ s ≤ 400 ∧ frC B G ∧ G 14 7 = nI i ∧ G 14 8 = nI (C i) ∧ G 14 9 = nI q ∧ G 16 1 = nI s ∧ ∀ k, k < s → G 17 k = nI ((M k).1 + 16 * (M k).2)
def RF (n : Nat) (B : am_I) (j : Nat) (G : am_I) : Prop := j ≤ n ∧ frC B G ∧ G 14 7 = nI j
theorem RD_RF {n : Nat} {C : Nat → Nat} {B : am_I} {i q s : Nat} {M : Nat → Nat × Nat} {G : am_I} (h : RD n C B i q s M G) : RF n B i G := ⟨h.1, h.2.2.2.1, h.2.2.2.2.1⟩
theorem q58 {n : Nat} {C : Nat → Nat} {law : Bool} {B : am_I} {i q s : Nat} {M : Nat → Nat × Nat} {G : am_I} {K : am_I → Prop} (hB : BC n C law B) (h : RD n C B i q s M G) (hc : C i ≠ 3000000) (hK : i + 1 ≤ n → ∀ G', RD n C B (i + 1) q s M G' → K G') : w_58 G K := by
  obtain ⟨h1, h2, h3, h4, h5, h6, h7, h8, h9⟩ := h
  have n4 := hB.1
  have i1 : i ≠ n := fun e => hc (by rw [e]; exact hB.2.2.1)
  have cl := BC_le hB h1
  unfold w_58
  rw [h6, h5, if_neg (show ¬ nI (C i) = 3000000 from fun e => hc ((nb_inj (b := 3000000) (by omega) (by decide)).mp e)), if_neg (show ¬ (400 : Int32) ≤ nI i from nI_ge (b := 400) (by omega) (by decide)), ← nI_succ]
  refine ⟨nb_gd (by omega) (by decide), ?_⟩
  rw [nI_clamp (by omega : i + 1 < 2 ^ 31), h4.1 21 (by decide) (by decide) (by decide), hB.2.1 (i + 1) (by omega)]
  refine hK (by omega) _ ⟨by omega, h2, h3, ⟨fun c c1 c2 c3 => ?_, fun k k1 k2 k3 => ?_, fun k hk => ?_⟩, ?_, uu_e, ?_, ?_, fun k hk => ?_⟩
  · rw [uu_h c1, uu_h c1]; exact h4.1 c c1 c2 c3
  · rw [uu_n k2, uu_n k1]; exact h4.2.1 k k1 k2 k3
  · rw [uu_c (by decide), uu_c (by decide)]; exact h4.2.2 k hk
  · rw [uu_n (by decide), uu_e]
  · rw [uu_n (by decide), uu_n (by decide)]; exact h7
  · rw [uu_c (by decide), uu_c (by decide)]; exact h8
  · rw [uu_c (by decide), uu_c (by decide)]; exact h9 k hk
theorem q62 {n : Nat} {C : Nat → Nat} {law : Bool} {B : am_I} {i q s x : Nat} {M : Nat → Nat × Nat} {G : am_I} {K : Int32 → am_I → Prop} (hB : BC n C law B) (h : RD n C B i q s M G) (hx : x < 3000000) (k0 : C i ≠ x → K 0 G) (k1 : C i = x → i + 1 ≤ n → ∀ G', RD n C B (i + 1) q s M G' → K 1 G') : w_62 (nI x) G K := by
  have cl := BC_le hB h.1
  unfold w_62
  rw [h.2.2.2.2.2.1]
  by_cases e : C i = x
  · rw [if_pos (by rw [e])]
    exact q58 hB h (by omega) (fun a G' g => k1 e a G' g)
  · rw [if_neg (fun q => e ((nb_inj (by omega) (by omega)).mp q))]
    exact k0 e
theorem q64 {n : Nat} {C : Nat → Nat} {B : am_I} {i q s o w : Nat} {M : Nat → Nat × Nat} {G : am_I} {K : Int32 → am_I → Prop} (h : RD n C B i q s M G) (hs : s < 400) (hK : ∀ G', RD n C B i q (s + 1) (up2 M s (o, w)) G' → K (nI s) G') : w_64 (nI o) (nI w) G K := by
  obtain ⟨h1, h2, h3, h4, h5, h6, h7, h8, h9⟩ := h
  unfold w_64
  rw [h8, if_pos (show nI s < Int32.ofNat 400 from (nb_lt (b := 400) (by omega) (by decide)).mpr hs)]
  refine ⟨nb_gd (by omega) (by decide), ?_⟩
  rw [nI_clamp (by omega : s < 2 ^ 31), ← nI_succ, show (16 : Int32) = nI 16 from rfl, nb_mul, nb_add]
  refine hK _ ⟨h1, h2, by omega, ⟨fun c c1 c2 c3 => ?_, fun k k1 k2 k3 => ?_, fun k hk => ?_⟩, ?_, ?_, ?_, uu_e, fun k hk => ?_⟩
  · rw [uu_h c2, uu_h c3]; exact h4.1 c c1 c2 c3
  · rw [uu_c (by decide), uu_c (by decide)]; exact h4.2.1 k k1 k2 k3
  · rw [uu_n hk, uu_c (by decide)]; exact h4.2.2 k hk
  · rw [uu_c (by decide), uu_c (by decide)]; exact h5
  · rw [uu_c (by decide), uu_c (by decide)]; exact h6
  · rw [uu_c (by decide), uu_c (by decide)]; exact h7
  · rw [uu_c (by decide)]
    by_cases e : k = s
    · rw [e, uu_e, up2_e]
    · rw [uu_n e, up2_n e]
      exact h9 k (by omega)
theorem q71 {n : Nat} {C : Nat → Nat} {B : am_I} {i q s a o : Nat} {M : Nat → Nat × Nat} {G : am_I} {K : am_I → Prop} (h : RD n C B i q s M G) (ha : a < s) (hK : ∀ G', RD n C B i q s (up2 M a (o, s)) G' → K G') : w_71 (nI a) (nI o) G K := by
  obtain ⟨h1, h2, h3, h4, h5, h6, h7, h8, h9⟩ := h
  unfold w_71
  rw [h8, if_neg (nI_pos (by omega)), if_neg (nI_ge ha (by omega))]
  refine ⟨nb_gd (by omega) (by decide), ?_⟩
  rw [nI_clamp (by omega : a < 2 ^ 31), show (16 : Int32) = nI 16 from rfl, nb_mul, nb_add]
  refine hK _ ⟨h1, h2, h3, ⟨fun c c1 c2 c3 => ?_, fun k k1 k2 k3 => ?_, fun k hk => ?_⟩, ?_, ?_, ?_, ?_, fun k hk => ?_⟩
  · rw [uu_h c3]; exact h4.1 c c1 c2 c3
  · rw [uu_c (by decide)]; exact h4.2.1 k k1 k2 k3
  · rw [uu_c (by decide)]; exact h4.2.2 k hk
  · rw [uu_c (by decide)]; exact h5
  · rw [uu_c (by decide)]; exact h6
  · rw [uu_c (by decide)]; exact h7
  · rw [uu_c (by decide)]; exact h8
  · by_cases e : k = a
    · rw [e, uu_e, up2_e]
    · rw [uu_n e, up2_n e]
      exact h9 k hk
/-- one more part -/
theorem RD_q {n : Nat} {C : Nat → Nat} {B : am_I} {i q s : Nat} {M : Nat → Nat × Nat} {G : am_I} (h : RD n C B i q s M G) (hq : q < 50) : RD n C B i (q + 1) s M (am_u G 14 9 (nI q + 1)) := by
  obtain ⟨h1, h2, h3, h4, h5, h6, h7, h8, h9⟩ := h
  refine ⟨h1, by omega, h3, ⟨fun c c1 c2 c3 => ?_, fun k k1 k2 k3 => ?_, fun k hk => ?_⟩, ?_, ?_, ?_, ?_, fun k hk => ?_⟩
  · rw [uu_h c1]; exact h4.1 c c1 c2 c3
  · rw [uu_n k3]; exact h4.2.1 k k1 k2 k3
  · rw [uu_c (by decide)]; exact h4.2.2 k hk
  · rw [uu_n (by decide)]; exact h5
  · rw [uu_n (by decide)]; exact h6
  · rw [uu_e]; exact (nI_succ q).symm
  · rw [uu_c (by decide)]; exact h8
  · rw [uu_c (by decide)]; exact h9 k hk
theorem f13n {c a b : Nat} (hc : c < 2 ^ 31) (ha : a < 2 ^ 31) (hb : b < 2 ^ 31) : f_13 (nI c) (nI a) (nI b) = b1 (decide (a ≤ c ∧ c ≤ b)) := by
  rcases q13 (nI c) a b ha hb with ⟨h, g⟩ | ⟨h, n, n1, n2, e⟩
  · rw [h]
    have : ¬ (a ≤ c ∧ c ≤ b) := fun q => g c q.1 q.2 rfl
    rw [decide_eq_false this]
    rfl
  · rw [h]
    have := (nb_inj hc (by omega)).mp e
    rw [decide_eq_true (show a ≤ c ∧ c ≤ b by omega)]
    rfl
theorem sub_ti {c k : Nat} (hc : c ≤ 3000000) (hk : k ≤ 3000000) : (nI c - nI k).toInt = (c : Int) - (k : Int) := by
  rw [Int32.toInt_sub, nI_toInt (by omega), nI_toInt (by omega)]
  exact Int.bmod_eq_of_le (by omega) (by omega)
theorem sub_eq {c k m : Nat} (hc : c ≤ 3000000) (hk : k ≤ 3000000) (hm : m ≤ 3000000) : nI c - nI k = nI m ↔ c = k + m := by
  constructor
  · intro h
    have e := congrArg Int32.toInt h
    rw [sub_ti hc hk, nI_toInt (by omega)] at e
    omega
  · intro h
    rw [h, nI_sub (by omega), Nat.add_sub_cancel_left]
theorem f13s {c k a b : Nat} (hc : c ≤ 3000000) (hk : k ≤ 2000000) (ha : a ≤ 1000) (hb : b ≤ 1000) : f_13 (nI c - nI k) (nI a) (nI b) = b1 (decide (k + a ≤ c ∧ c ≤ k + b)) := by
  rcases q13 (nI c - nI k) a b (by omega) (by omega) with ⟨h, g⟩ | ⟨h, n, n1, n2, e⟩
  · rw [h]
    have : ¬ (k + a ≤ c ∧ c ≤ k + b) := fun q => g (c - k) (by omega) (by omega) ((sub_eq hc (by omega) (by omega)).mpr (by omega))
    rw [decide_eq_false this]
    rfl
  · rw [h]
    have := (sub_eq hc (by omega) (by omega)).mp e
    rw [decide_eq_true (show k + a ≤ c ∧ c ≤ k + b by omega)]
    rfl
theorem ifb {b : Bool} {A B : Prop} (h0 : b = false → A) (h1 : b = true → B) : if b1 b = 0 then A else B := by
  cases b with
  | false => exact am_ifp rfl (h0 rfl)
  | true => exact am_ifn (by decide) (h1 rfl)
theorem ifd {p : Prop} {dp : Decidable p} {A B : Prop} (h0 : ¬ p → A) (h1 : p → B) : if b1 (decide p) = 0 then A else B := ifb (fun h => h0 (of_decide_eq_false h)) (fun h => h1 (of_decide_eq_true h))
theorem f66 {G : am_I} {c : Nat} (hc : c ≤ 3000000) (e : G 14 8 = nI c) : f_66 G = if sgo c = 0 then -1 else nI (sgo c) := by
  unfold f_66
  rw [e]
  by_cases h : c < 2000037 ∨ 2000062 < c
  · have nq : ∀ k, 2000037 ≤ k → k ≤ 2000062 → ¬ nI c = nI k := fun k k1 k2 q => by
      have := (nb_inj (by omega) (by omega)).mp q
      omega
    have s0 : sgo c = 0 := by
      unfold sgo
      rw [if_neg (by omega), if_neg (by omega), if_neg (by omega), if_neg (by omega), if_neg (by omega), if_neg (by omega), if_neg (by omega), if_neg (by omega)]
    rw [if_pos s0, if_neg (show ¬ nI c = (2000037 : Int32) from nq 2000037 (by decide) (by decide)), if_neg (show ¬ nI c = (2000038 : Int32) from nq 2000038 (by decide) (by decide)), if_neg (show ¬ nI c = (2000039 : Int32) from nq 2000039 (by decide) (by decide)), if_neg (show ¬ nI c = (2000040 : Int32) from nq 2000040 (by decide) (by decide)), if_neg (show ¬ nI c = (2000041 : Int32) from nq 2000041 (by decide) (by decide)), if_neg (show ¬ nI c = (2000042 : Int32) from nq 2000042 (by decide) (by decide)), if_neg (show ¬ nI c = (2000043 : Int32) from nq 2000043 (by decide) (by decide)), if_neg (show ¬ nI c = (2000044 : Int32) from nq 2000044 (by decide) (by decide)), if_neg (show ¬ nI c = (2000045 : Int32) from nq 2000045 (by decide) (by decide)), if_neg (show ¬ nI c = (2000046 : Int32) from nq 2000046 (by decide) (by decide)), if_neg (show ¬ nI c = (2000047 : Int32) from nq 2000047 (by decide) (by decide)), if_neg (show ¬ nI c = (2000048 : Int32) from nq 2000048 (by decide) (by decide)), if_neg (show ¬ nI c = (2000049 : Int32) from nq 2000049 (by decide) (by decide)), if_neg (show ¬ nI c = (2000050 : Int32) from nq 2000050 (by decide) (by decide)), if_neg (show ¬ nI c = (2000051 : Int32) from nq 2000051 (by decide) (by decide)), if_neg (show ¬ nI c = (2000052 : Int32) from nq 2000052 (by decide) (by decide)), if_neg (show ¬ nI c = (2000053 : Int32) from nq 2000053 (by decide) (by decide)), if_neg (show ¬ nI c = (2000054 : Int32) from nq 2000054 (by decide) (by decide)), if_neg (show ¬ nI c = (2000055 : Int32) from nq 2000055 (by decide) (by decide)), if_neg (show ¬ nI c = (2000056 : Int32) from nq 2000056 (by decide) (by decide)), if_neg (show ¬ nI c = (2000057 : Int32) from nq 2000057 (by decide) (by decide)), if_neg (show ¬ nI c = (2000058 : Int32) from nq 2000058 (by decide) (by decide)), if_neg (show ¬ nI c = (2000059 : Int32) from nq 2000059 (by decide) (by decide)), if_neg (show ¬ nI c = (2000060 : Int32) from nq 2000060 (by decide) (by decide)), if_neg (show ¬ nI c = (2000061 : Int32) from nq 2000061 (by decide) (by decide)), if_neg (show ¬ nI c = (2000062 : Int32) from nq 2000062 (by decide) (by decide))]
  · rcases (by omega : c = 2000037 ∨ c = 2000038 ∨ c = 2000039 ∨ c = 2000040 ∨ c = 2000041 ∨ c = 2000042 ∨ c = 2000043 ∨ c = 2000044 ∨ c = 2000045 ∨ c = 2000046 ∨ c = 2000047 ∨ c = 2000048 ∨ c = 2000049 ∨ c = 2000050 ∨ c = 2000051 ∨ c = 2000052 ∨ c = 2000053 ∨ c = 2000054 ∨ c = 2000055 ∨ c = 2000056 ∨ c = 2000057 ∨ c = 2000058 ∨ c = 2000059 ∨ c = 2000060 ∨ c = 2000061 ∨ c = 2000062) with rfl | rfl | rfl | rfl | rfl | rfl | rfl | rfl | rfl | rfl | rfl | rfl | rfl | rfl | rfl | rfl | rfl | rfl | rfl | rfl | rfl | rfl | rfl | rfl | rfl | rfl
    all_goals decide
theorem f13g {G : am_I} {c a b : Nat} (hc : c ≤ 3000000) (e : G 14 8 = nI c) (ha : 1 ≤ a) (ha2 : a ≤ 1000) (hb : b ≤ 1000) : f_13 (f_66 G) (nI a) (nI b) = b1 (decide (a ≤ sgo c ∧ sgo c ≤ b)) := by
  have sl := sgo_le c
  rw [f66 hc e]
  by_cases z : sgo c = 0
  · rw [if_pos z, decide_eq_false (by omega)]
    rcases q13 (-1) a b (by omega) (by omega) with ⟨h, g⟩ | ⟨h, n, n1, n2, e⟩
    · exact h
    · exact absurd e.symm (nb_m1 (by omega))
  · rw [if_neg z]
    exact f13n (by omega) (by omega) (by omega)
