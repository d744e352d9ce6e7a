/-! orders: what holds behind them -/
theorem mk26 {I : am_I} {p : Nat} (hp : p < 8) : mkR I (26 + p) = I 4 p := by
  unfold mkR
  rw [if_neg (by omega), if_neg (by omega), if_neg (by omega), if_neg (by omega), if_pos (by omega), show 26 + p - 26 = p by omega]
theorem mk34 {I : am_I} {p : Nat} (hp : p < 8) : mkR I (34 + p) = I 5 p := by
  unfold mkR
  rw [if_neg (by omega), if_neg (by omega), if_neg (by omega), if_neg (by omega), if_neg (by omega), show 34 + p - 34 = p by omega]
theorem mk18 {I : am_I} {p : Nat} (hp : p < 8) : mkR I (18 + p) = I 7 p := by
  unfold mkR
  rw [if_neg (by omega), if_neg (by omega), if_neg (by omega), if_pos (by omega), show 18 + p - 18 = p by omega]
theorem prc_8 {I J : am_I} (fx : Option LWX) {p : Nat} (hp : p < 8) (h4 : J 4 p = I 4 p) (h5 : J 5 p = I 5 p) (h7 : J 7 p = I 7 p) (h12 : ∀ k, k < 4 → J 12 k = I 12 k) : prc J fx p = prc I fx p := by
  have m5 : mkR J 5 = mkR I 5 := h12 0 (by decide)
  have m7 : mkR J 7 = mkR I 7 := h12 2 (by decide)
  have m8 : mkR J 8 = mkR I 8 := h12 3 (by decide)
  have e : ∀ a b c : Int, wdp (mkR J) p a b c = wdp (mkR I) p a b c := by
    intro a b c
    funext x
    unfold wdp
    rw [mk26 (I := J) hp, mk34 (I := J) hp, mk18 (I := J) hp, mk26 (I := I) hp, mk34 (I := I) hp, mk18 (I := I) hp, m5, m7, m8, h4, h5, h7]
  funext w b
  unfold prc
  rw [e, h5]
theorem wy_P {P P' : PRI} {m M : Nat} (e : ∀ p, p < m → P p = P' p) : ∀ n h, wy P m M n h = wy P' m M n h
  | 0, _ => rfl
  | n + 1, h => by
    have ih : wy P m M n = wy P' m M n := funext (wy_P e n)
    show fd (chd P M (wy P m M n) h) m = fd (chd P' M (wy P' m M n) h) m
    rw [ih]
    refine fd_cg m (fun p hp => ?_)
    unfold chd okp
    rw [e p hp]
theorem pk_P {P P' : PRI} {m M : Nat} (e : ∀ p, p < m → P p = P' p) : ∀ n h, pk P m M n h = pk P' m M n h
  | 0, _ => rfl
  | n + 1, h => by
    show (wy P m M (n + 1) h).2.2 :: pk P m M n ((wy P m M (n + 1) h).2.2 :: h) = (wy P' m M (n + 1) h).2.2 :: pk P' m M n ((wy P' m M (n + 1) h).2.2 :: h)
    rw [wy_P e (n + 1) h, pk_P e n]
theorem PLL_8 {T T' : Nat → Nat × Nat} {r r' : Nat → Nat → Option Nat} {I J : am_I} {q : Nat} (h : PLL T r I q) (e99 : ∀ c, 99 ≤ c → J c = I c) (e68 : ∀ i, 110 ≤ i → J 68 i = I 68 i) (e10 : J 1 10 = I 1 10) (e16 : J 1 16 = I 1 16) (e8 : ∀ k, k < 8 → J 4 k = I 4 k ∧ J 5 k = I 5 k ∧ J 7 k = I 7 k) (e12 : ∀ k, k < 4 → J 12 k = I 12 k) : PLL T' r' J q := by
  obtain ⟨q99, fx, m, M, h1, h2, h3, h4, h5, h6, h7⟩ := h
  have pe : ∀ p, p < m → prc J fx p = prc I fx p := fun p hp => prc_8 fx (by omega) (e8 p (by omega)).1 (e8 p (by omega)).2.1 (e8 p (by omega)).2.2 e12
  have w1 : WW J fx m M = WW I fx m M := wy_P pe 6 []
  have w2 : KK J fx m M = KK I fx m M := pk_P pe 6 []
  refine ⟨q99, fx, m, M, h1, h2, e10.trans h3, (e12 1 (by decide)).trans h4, by rw [e16]; exact LOr_cg h5 e68, ?_, ?_⟩
  · rw [w1, e99 q q99]; exact h6
  · rw [w1, w2, e99 q q99, e99 (q + 1) (by omega)]; exact h7
theorem DD_ord {N : Nat} {T : Nat → Nat × Nat} {r r' : Nat → Nat → Option Nat} {I J : am_I} {L L' : am_J} (h : DR N T r I L) (er : ∀ c j, c ≠ 46 → r' c j = r c j) (e99 : ∀ c, 99 ≤ c → J c = I c) (e15 : J 1 15 = I 1 15) (e68 : ∀ i, 110 ≤ i → J 68 i = I 68 i) (e69 : J 69 = I 69) (e70 : J 70 = I 70) (e10 : J 0 10 = 0 ∨ (J 0 10 = I 0 10 ∧ J 1 10 = I 1 10 ∧ J 1 16 = I 1 16 ∧ (∀ k, k < 8 → J 4 k = I 4 k ∧ J 5 k = I 5 k ∧ J 7 k = I 7 k) ∧ ∀ k, k < 4 → J 12 k = I 12 k)) : DR N T r' J L' := by
  obtain ⟨d1, d2, d3, d4, d5, d6, d7, d8, d9⟩ := h
  have r13 : ∀ k, k < 2 → r' 13 k = r 13 k := fun k _ => er 13 k (by decide)
  have r09 : r' 0 9 = r 0 9 := er 0 9 (by decide)
  refine ⟨d1, DSl_cg d2 r13 r09 (fun j => er 11 j (by decide)), ?_, DIm_cg (by decide) d4 e99 e69 e70 (fun c j hc => er c j (by omega)) r13 r09, DIm_cg (by decide) d5 e99 e69 e70 (fun c j hc => er c j (by omega)) r13 r09, fun p p' hp hp' => ?_, fun k p q hk hp hq => ?_, fun hn => ?_, fun q hq => ?_⟩
  · rw [e15]
    exact DLa_cg2 d3 e99 (fun c j hc => er c j (by omega)) (fun j _ => er 11 j (by decide)) (fun i i1 _ => e68 i i1)
  · rw [r13 0 (by decide)] at hp
    rw [r13 1 (by decide)] at hp'
    exact d6 p p' hp hp'
  · rw [r13 k hk] at hp
    rw [r09] at hq
    exact d7 k p q hk hp hq
  · rw [r09] at hn
    rcases e10 with z | ⟨z, _⟩
    · exact z
    · rw [z]; exact d8 hn
  · rw [r09] at hq
    obtain ⟨w1, w2, w3, w4⟩ := d9 q hq
    refine ⟨w1, w2, RTT_fr T r I T r' J q w1 (fun c c1 c2 => ⟨rfl, fun j => er c j (by omega), e99 c (by omega)⟩) w3, ?_⟩
    rcases e10 with z | ⟨z1, z2, z3, z4, z5⟩
    · exact Or.inl z
    · rcases w4 with w4 | w4
      · exact Or.inl (by rw [z1]; exact w4)
      · exact Or.inr (PLL_8 w4 e99 e68 z2 z3 z4 z5)
theorem UNr_n {u1 u2 u1' u2' : Int32} {c30 c31 c32 c33 c34 c71 c72 R d30 d31 d32 d33 d34 d71 d72 R' : Nat → Int32} {u : Nat} (h : UNr u1 u2 c30 c31 c32 c33 c34 c71 c72 R) (hu : u1 = nI u) (hu6 : u ≤ 16) (e1 : u1' = nI u) (e2 : u2' = nI u) (e : ∀ j, j < u → d30 j = c30 j ∧ d31 j = c31 j ∧ d32 j = c32 j ∧ d33 j = c33 j ∧ d34 j = c34 j ∧ d72 j = c72 j) (e71 : ∀ k, k < 21 * u → d71 k = c71 k) (eR : ∀ i, i < 26 → R' i = R i) : UNr u1' u2' d30 d31 d32 d33 d34 d71 d72 R' := by
  obtain ⟨un, m, hun, hm, w1, eu, eu2, old⟩ := h
  have uu : un = u := (nb_inj (by omega) (by omega)).mp (eu.symm.trans hu)
  subst uu
  refine ⟨un, m, hu6, hm, (eR 1 (by decide)).trans w1, e1, e2, fun j hj => ?_⟩
  obtain ⟨o1, o2, o3⟩ := old j hj
  obtain ⟨c0, c1, c2, c3, c4, c5⟩ := e j hj
  refine ⟨by rw [c5, c0]; exact o1, by rw [c0, c1, c2, c3, c4]; exact o2, fun i hi => ?_⟩
  rw [e71 _ (by omega), o3 i hi, c0, c1, c2, c3, c4]
  refine (ust_cg (fun i' hi' => ?_) hi).symm
  show (if j + 1 = un then R' (5 + i') else d71 (21 * (j + 1) + i')) = (if j + 1 = un then R (5 + i') else c71 (21 * (j + 1) + i'))
  by_cases z : j + 1 = un
  · rw [if_pos z, if_pos z, eR _ (by omega)]
  · rw [if_neg z, if_neg z, e71 _ (by omega)]
/-- cells that no orders change -/
def rdz (c : Nat) : Prop := 13 ≤ c ∧ c ≠ 14 ∧ ¬ (16 ≤ c ∧ c ≤ 22) ∧ ¬ (24 ≤ c ∧ c ≤ 26) ∧ ¬ (29 ≤ c ∧ c ≤ 54) ∧ ¬ (65 ≤ c ∧ c ≤ 68) ∧ ¬ (71 ≤ c ∧ c ≤ 74) ∧ ¬ (76 ≤ c ∧ c ≤ 80) ∧ c ≠ 97
theorem inv_oG {N : Nat} {T : Nat → Nat × Nat} {r r' : Nat → Nat → Option Nat} {I Z V' : am_I} {L H : am_J} {u' : Nat} (h : Inv DR N T r I L) (hv : IV V') (vf : VF I V') (cn : CNv Z V' u') (rn : RNv Z V' u') (u6 : u' ≤ 16) (er : ∀ c j, c ≠ 46 → r' c j = r c j) (mr : ∀ c, rdz c → Z c = I c) (z013 : Z 0 13 = I 0 13) (z010 : Z 0 10 = 0) (z012 : Z 0 12 = 0) (z65 : Z 65 = I 65) (z67 : Z 67 = I 67) (z661 : Z 66 1 = 0) (z66 : ∀ i, (i = 11 ∨ i = 60 ∨ i = 61) → Z 66 i = I 66 i) (z13 : Z 66 13 = 0) (z20 : Z 66 20 = 0) (z14 : Z 14 1 = 0) (z18 : Z 14 2 = Z 66 18) (z35 : Z 35 1 = Z 66 56) (hL : LWr H) : Inv DR N T r' Z H := by
  obtain ⟨⟨h1, h2, h3, h4, h5, h6, h7, h8, h9, f1, f2, f3, f4, f5⟩, hdd⟩ := h
  obtain ⟨Lv, ⟨p1, p2, p3, p4, p5, p6, p7, p8, p9, g1, g2, g3, g4, g5⟩, _⟩ := hv
  have q : ∀ c, c = 63 ∨ c = 64 ∨ c = 69 ∨ c = 70 ∨ c = 92 ∨ 98 ≤ c → Z c = I c := fun c hc => mr c (by unfold rdz; omega)
  refine ⟨⟨?_, ?_, ?_, ?_, ?_, ⟨0, by decide, z14, z13, fun k hk => absurd hk (Nat.not_lt_zero _)⟩, ?_, ?_, ?_, z18, z35, z20, ?_, hL⟩, DD_ord hdd er (fun c hc => q c (by omega)) ?_ (fun i hi => ?_) (q 69 (by omega)) (q 70 (by omega)) (Or.inl z010)⟩
  · rw [cn.1 1 (by decide) (by decide), cn.1 2 (by decide) (by decide), cn.1 3 (by decide) (by decide), rn.1]; exact p1
  · rw [cn.1 1 (by decide) (by decide), cn.1 4 (by decide) (by decide), cn.1 5 (by decide) (by decide), cn.1 6 (by decide) (by decide), cn.1 7 (by decide) (by decide), cn.1 8 (by decide) (by decide), rn.1]; exact p2
  · rw [cn.1 1 (by decide) (by decide), cn.1 9 (by decide) (by decide), cn.1 10 (by decide) (by decide), rn.1]; exact p3
  · rw [cn.1 1 (by decide) (by decide), rn.1]; exact p4
  · rw [cn.1 1 (by decide) (by decide), cn.1 12 (by decide) (by decide), rn.1]; exact p5
  · refine UNr_n (u := u') p7 cn.2.2.1 u6 cn.2.1 rn.2.1 (fun j hj => ?_) rn.2.2.2.1 (fun i _ => by rw [rn.1])
    obtain ⟨c0, c1, c2, c3, c4⟩ := cn.2.2.2 j hj
    exact ⟨c0, c1, c2, c3, c4, rn.2.2.2.2 j hj⟩
  · rw [q 63 (by omega), q 64 (by omega), q 98 (by omega), z66 60 (by omega), z66 61 (by omega)]; exact h8
  · rw [z65, z67]
    exact MSr_0 h9 z012 z661 z013 (z66 11 (by omega))
  · rw [q 92 (by omega)]; exact f4
  · rw [cn.1 1 (by decide) (by decide)]; exact vf.2
  · rw [rn.1]; exact vf.1 i (by omega)
theorem inv_oB {N : Nat} {T : Nat → Nat × Nat} {r r' : Nat → Nat → Option Nat} {I Z : am_I} {L H : am_J} (h : Inv DR N T r I L) (cx : CPX 1 1 I Z) (z68 : Z 68 = I 68) (z29 : Z 29 0 = I 29 0) (z30 : ∀ i k, 30 ≤ i → i ≤ 34 → k < 16 → Z i k = I i k) (z8 : Z 66 8 = I 66 8) (z71 : ∀ k, k < 336 → Z 71 k = I 71 k) (z72 : ∀ k, k < 16 → Z 72 k = I 72 k) (er : ∀ c j, c ≠ 46 → r' c j = r c j) (mr : ∀ c, rdz c → Z c = I c) (z0 : ∀ i, i ≠ 12 → Z 0 i = I 0 i) (z012 : Z 0 12 = -3) (z65 : ∀ i, i ≠ 2 → Z 65 i = I 65 i) (z652 : Z 65 2 = I 65 2 + 1) (z67 : ∀ i, i ≠ 3 → Z 67 i = I 67 i) (z673 : Z 67 3 = I 67 3 + 1) (z661 : Z 66 1 = -3) (z66 : ∀ i, (i = 11 ∨ i = 60 ∨ i = 61) → Z 66 i = I 66 i) (z13 : Z 66 13 = 0) (z20 : Z 66 20 = 0) (z14 : Z 14 1 = 0) (z18 : Z 14 2 = Z 66 18) (z35 : Z 35 1 = Z 66 56) (hL : LWr H) : Inv DR N T r' Z H := by
  obtain ⟨⟨h1, h2, h3, h4, h5, h6, h7, h8, h9, f1, f2, f3, f4, f5⟩, hdd⟩ := h
  have q : ∀ c, c = 63 ∨ c = 64 ∨ c = 69 ∨ c = 70 ∨ c = 92 ∨ 98 ≤ c → Z c = I c := fun c hc => mr c (by unfold rdz; omega)
  obtain ⟨q1, q2, q3, q4, q5⟩ := PR_cp (R := I 68) (R' := Z 68) cx (fun i _ => by rw [z68])
  obtain ⟨k1, k2, k3, k4⟩ := cx
  obtain ⟨a1, a2, a3, a4, a5, a6, a7⟩ := h9
  have h7' := h7
  obtain ⟨u, m, hu, hm, w1, eu, eu2, old⟩ := h7'
  refine ⟨⟨q1 h1, q2 h2, q3 h3, q4 h4, q5 h5, ⟨0, by decide, z14, z13, fun k hk => absurd hk (Nat.not_lt_zero _)⟩, ?_, ?_, ⟨z012.trans z661.symm, ?_, ?_, ?_, ?_, ?_, ?_⟩, z18, z35, z20, ?_, hL⟩, DD_ord hdd er (fun c hc => q c (by omega)) (k4 15 (by omega)) (fun i _ => by rw [z68]) (q 69 (by omega)) (q 70 (by omega)) (Or.inr ⟨z0 10 (by decide), k4 10 (by omega), k4 16 (by omega), fun k hk => ⟨k2 3 k (by decide) (by decide) hk, k2 4 k (by decide) (by decide) hk, k2 6 k (by decide) (by decide) hk⟩, k3⟩)⟩
  · exact UNr_n (u := u) h7 eu hu (z29.trans eu) (z8.trans eu2) (fun j hj => ⟨z30 30 j (by decide) (by decide) (by omega), z30 31 j (by decide) (by decide) (by omega), z30 32 j (by decide) (by decide) (by omega), z30 33 j (by decide) (by decide) (by omega), z30 34 j (by decide) (by decide) (by omega), z72 j (by omega)⟩) (fun k hk => z71 k (by omega)) (fun i _ => by rw [z68])
  · rw [q 63 (by omega), q 64 (by omega), q 98 (by omega), z66 60 (by omega), z66 61 (by omega)]; exact h8
  · rw [z65 0 (by omega), z67 1 (by omega)]; exact a2
  · rw [z65 1 (by omega), z67 2 (by omega)]; exact a3
  · rw [z652, z673, a4]
  · rw [z65 3 (by omega), z67 5 (by omega)]; exact a5
  · rw [z65 4 (by omega), z67 6 (by omega)]; exact a6
  · rw [z0 13 (by decide), z66 11 (by omega)]; exact a7
  · rw [q 92 (by omega)]; exact f4
