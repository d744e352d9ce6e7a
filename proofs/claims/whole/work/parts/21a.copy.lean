/-! a prison is copied into another -/
def PSN (T : Nat → Nat × Nat) (r : Nat → Nat → Option Nat) (a : Nat) : Prop := (am_ts T a).1 = 7 ∧ am_rs r a 0 = some (a + 1) ∧ am_rs r a 1 = some (a + 2) ∧ am_rs r a 4 = some (a + 3) ∧ am_rs r a 5 = some (a + 4) ∧ am_rs r a 6 = some (a + 5) ∧ am_rs r a 7 = some (a + 6) ∧ am_rs r a 8 = some (a + 7) ∧ am_rs r a 11 = some (a + 8) ∧ am_rs r a 12 = some (a + 9) ∧ am_rs r a 14 = some (a + 10) ∧ am_rs r a 17 = some (a + 11) ∧ am_ts T (a + 1) = (20, 12) ∧ am_ts T (a + 2) = (20, 12) ∧ am_ts T (a + 3) = (20, 8) ∧ am_ts T (a + 4) = (20, 8) ∧ am_ts T (a + 5) = (20, 8) ∧ am_ts T (a + 6) = (20, 8) ∧ am_ts T (a + 7) = (20, 8) ∧ am_ts T (a + 8) = (20, 8) ∧ am_ts T (a + 9) = (20, 8) ∧ am_ts T (a + 10) = (24, 6) ∧ am_ts T (a + 11) = (20, 4)
theorem PSN_1 (T : Nat → Nat × Nat) (r : Nat → Nat → Option Nat) : PSN T r 1 := ⟨rfl, rfl, rfl, rfl, rfl, rfl, rfl, rfl, rfl, rfl, rfl, rfl, rfl, rfl, rfl, rfl, rfl, rfl, rfl, rfl, rfl, rfl, rfl⟩
theorem PSN_36 (T : Nat → Nat × Nat) (r : Nat → Nat → Option Nat) : PSN T r 36 := ⟨rfl, rfl, rfl, rfl, rfl, rfl, rfl, rfl, rfl, rfl, rfl, rfl, rfl, rfl, rfl, rfl, rfl, rfl, rfl, rfl, rfl, rfl, rfl⟩
theorem ci_o {I : am_I} {a0 a1 sp dp n b : Nat} (h : b ≠ a1) : am_ci I a0 a1 sp dp n b = I b := by
  funext k
  unfold am_ci
  rw [if_neg h]
theorem ci_e {I : am_I} {a0 a1 n k : Nat} (h : k < n) : am_ci I a0 a1 0 0 n a1 k = I a0 k := by
  unfold am_ci va_cpy
  rw [if_pos rfl, if_pos (by omega)]
  congr 1
  omega
def CPR (a x : Nat) (r r' : Nat → Nat → Option Nat) : Prop := (∀ c j, ¬ (c = a + 10 ∧ j < 6) → r' c j = r c j) ∧ ∀ j, j < 6 → r' (a + 10) j = am_rs r (x + 10) j
def CPY (a x : Nat) (I F : am_I) : Prop := (∀ c, (c < a ∨ a + 12 ≤ c ∨ c = a + 10) → F c = I c) ∧ (∀ k, k < 12 → F (a + 1) k = I (x + 1) k ∧ F (a + 2) k = I (x + 2) k) ∧ (∀ i k, 3 ≤ i → i ≤ 9 → k < 8 → F (a + i) k = I (x + i) k) ∧ (∀ k, k < 4 → F (a + 11) k = I (x + 11) k) ∧ ∀ j, (j = 2 ∨ j = 3 ∨ j = 9 ∨ j = 10 ∨ j = 13 ∨ j = 15 ∨ j = 16 ∨ j = 18) → F a j = I x j
theorem l80 {a x N : Nat} {T : Nat → Nat × Nat} {r : Nat → Nat → Option Nat} {I : am_I} {E : Int32 → Nat → (Nat → Nat × Nat) → (Nat → Nat → Option Nat) → Prop} (a1 : (am_ts T a).1 = 7) (x1 : (am_ts T x).1 = 7) (a2 : ∀ r', (∀ c j, ¬ (c = a + 10 ∧ j < 6) → r' c j = r c j) → am_rs r' a 14 = some (a + 10)) (x2 : ∀ r', (∀ c j, ¬ (c = a + 10 ∧ j < 6) → r' c j = r c j) → am_rs r' x 14 = some (x + 10)) (a3 : am_ts T (a + 10) = (24, 6)) (x3 : am_ts T (x + 10) = (24, 6)) (hd : a ≠ x) (hf : ∀ j, am_fr (a + 10) j) (hk : ∀ j t, j < 6 → am_rs r (x + 10) j = some t → (am_ts T t).1 = 11) (hE : ∀ r' u, CPR a x r r' → E u N T r') : ∀ q j r', j + q = 6 → (∀ c i, ¬ (c = a + 10 ∧ i < j) → r' c i = r c i) → (∀ i, i < j → r' (a + 10) i = am_rs r (x + 10) i) → lw_80_177 (q + 1) a x (nI j) N T r' I E
  | 0, j, r', h, h1, h2 => by
    have e : j = 6 := by omega
    subst e
    unfold lw_80_177
    rw [if_pos (by decide)]
    exact hE r' _ ⟨h1, h2⟩
  | q + 1, j, r', h, h1, h2 => by
    have fr : ∀ c i, ¬ (c = a + 10 ∧ i < 6) → r' c i = r c i := fun c i hc => h1 c i (fun g => hc ⟨g.1, by omega⟩)
    have ex : am_rs r' (x + 10) j = am_rs r (x + 10) j := am_rs_ap (h1 _ _ (fun g => hd (by omega)))
    have ih := fun v (hv : am_rs r (x + 10) j = v) => l80 (I := I) a1 x1 a2 x2 a3 x3 hd hf hk hE q (j + 1) (am_u r' (a + 10) j v) (by omega) (fun c i hc => by
      by_cases e1 : c = a + 10
      · rw [e1, show am_u r' (a + 10) j v (a + 10) i = r' (a + 10) i from uu_n (fun e => hc ⟨e1, by omega⟩)]
        exact h1 _ _ (fun g => hc ⟨e1, by omega⟩)
      · rw [show am_u r' (a + 10) j v c i = r' c i from uu_c e1]
        exact h1 c i (fun g => e1 g.1)) (fun i hi => by
      by_cases e : i = j
      · rw [e, show am_u r' (a + 10) j v (a + 10) j = v from uu_e, hv]
      · rw [show am_u r' (a + 10) j v (a + 10) i = r' (a + 10) i from uu_n e]
        exact h2 i (by omega))
    unfold lw_80_177
    rw [if_neg (show ¬ (6 : Int32) ≤ nI j from nI_ge (b := 6) (by omega) (by decide)), ← nI_succ, nI_clamp (by omega : j < 2 ^ 31)]
    have gx : ¬ (nI j < 0 ∨ (am_ts T (x + 10)).2 ≤ j) := by
      rw [x3]
      rintro (g | g)
      · exact nI_pos (by omega) g
      · exact absurd g (by show ¬ 6 ≤ j; omega)
    have ga : ¬ (nI j < 0 ∨ (am_ts T (a + 10)).2 ≤ j) := by
      rw [a3]
      rintro (g | g)
      · exact nI_pos (by omega) g
      · exact absurd g (by show ¬ 6 ≤ j; omega)
    refine ⟨a1, a + 10, a2 r' fr, x1, x + 10, x2 r' fr, Or.inr (by rw [x3]), gx, ?_, fun t ht => ?_⟩
    · intro hn
      rw [ex] at hn
      exact ⟨hf j, Or.inr (by rw [a3]), ga, ih none hn⟩
    · rw [ex] at ht
      exact ⟨hf j, Or.inr ⟨by rw [a3], hk j t (by omega) ht⟩, ga, ih (some t) ht⟩
theorem q80 {a x N : Nat} {T : Nat → Nat × Nat} {r : Nat → Nat → Option Nat} {I : am_I} {K : Nat → (Nat → Nat × Nat) → (Nat → Nat → Option Nat) → am_I → Prop} (hA : ∀ r', (∀ c j, ¬ (c = a + 10 ∧ j < 6) → r' c j = r c j) → PSN T r' a) (hX : ∀ r', (∀ c j, ¬ (c = a + 10 ∧ j < 6) → r' c j = r c j) → PSN T r' x) (hd : a + 12 ≤ x ∨ x + 12 ≤ a) (hf : ∀ j, am_fr (a + 10) j) (hk : ∀ j t, j < 6 → am_rs r (x + 10) j = some t → (am_ts T t).1 = 11) (hK : ∀ r' F, CPR a x r r' → CPY a x I F → K N T r' F) : w_80 a x N T r I K := by
  obtain ⟨a0, a1, a2, a3, a4, a5, a6, a7, a8, a9, a10, a11, s1, s2, s3, s4, s5, s6, s7, s8, s9, s10, s11⟩ := hA r (fun _ _ _ => rfl)
  obtain ⟨x0, x1, x2, x3, x4, x5, x6, x7, x8, x9, x10, x11, t1, t2, t3, t4, t5, t6, t7, t8, t9, t10, t11⟩ := hX r (fun _ _ _ => rfl)
  unfold w_80
  refine ⟨x0, x + 1, x1, a0, a + 1, a1, ⟨by rw [t1], by rw [s1], by decide, by decide, by decide, by rw [t1]; decide, by rw [s1]; decide⟩, _, rfl, ?_⟩
  generalize hJ1 : am_ci I (x + 1) (a + 1) (Int32.toNatClampNeg (0 : Int32)) (Int32.toNatClampNeg (0 : Int32)) (Int32.toNatClampNeg (12 : Int32)) = J1
  have o1 : ∀ c, c ≠ a + 1 → J1 c = I c := fun c hc => by rw [← hJ1]; exact ci_o hc
  have e1 : ∀ i, i < 12 → J1 (a + 1) i = I (x + 1) i := fun i hi => by rw [← hJ1]; exact ci_e hi
  refine ⟨x0, x + 2, x2, a0, a + 2, a2, ⟨by rw [t2], by rw [s2], by decide, by decide, by decide, by rw [t2]; decide, by rw [s2]; decide⟩, _, rfl, ?_⟩
  generalize hJ2 : am_ci J1 (x + 2) (a + 2) (Int32.toNatClampNeg (0 : Int32)) (Int32.toNatClampNeg (0 : Int32)) (Int32.toNatClampNeg (12 : Int32)) = J2
  have o2 : ∀ c, c ≠ a + 2 → J2 c = J1 c := fun c hc => by rw [← hJ2]; exact ci_o hc
  have e2 : ∀ i, i < 12 → J2 (a + 2) i = J1 (x + 2) i := fun i hi => by rw [← hJ2]; exact ci_e hi
  refine ⟨x0, a0, x0, a0, ?_⟩
  generalize hJ3 : am_u (am_u J2 a 2 (J2 x 2)) a 3 ((am_u J2 a 2 (J2 x 2)) x 3) = J3
  have o3 : ∀ c, c ≠ a → J3 c = J2 c := fun c hc => by rw [← hJ3, uu_h hc, uu_h hc]
  have e3 : J3 a 2 = J2 x 2 ∧ J3 a 3 = J2 x 3 := by
    rw [← hJ3]
    exact ⟨by rw [uu_n (by decide), uu_e], by rw [uu_e, uu_c (by omega)]⟩
  have n3 : ∀ j, j ≠ 2 → j ≠ 3 → J3 a j = J2 a j := fun j j1 j2 => by rw [← hJ3, uu_n j2, uu_n j1]
  refine ⟨x0, x + 3, x3, a0, a + 3, a3, ⟨by rw [t3], by rw [s3], by decide, by decide, by decide, by rw [t3]; decide, by rw [s3]; decide⟩, _, rfl, ?_⟩
  generalize hJ4 : am_ci J3 (x + 3) (a + 3) (Int32.toNatClampNeg (0 : Int32)) (Int32.toNatClampNeg (0 : Int32)) (Int32.toNatClampNeg (8 : Int32)) = J4
  have o4 : ∀ c, c ≠ a + 3 → J4 c = J3 c := fun c hc => by rw [← hJ4]; exact ci_o hc
  have e4 : ∀ i, i < 8 → J4 (a + 3) i = J3 (x + 3) i := fun i hi => by rw [← hJ4]; exact ci_e hi
  refine ⟨x0, x + 4, x4, a0, a + 4, a4, ⟨by rw [t4], by rw [s4], by decide, by decide, by decide, by rw [t4]; decide, by rw [s4]; decide⟩, _, rfl, ?_⟩
  generalize hJ5 : am_ci J4 (x + 4) (a + 4) (Int32.toNatClampNeg (0 : Int32)) (Int32.toNatClampNeg (0 : Int32)) (Int32.toNatClampNeg (8 : Int32)) = J5
  have o5 : ∀ c, c ≠ a + 4 → J5 c = J4 c := fun c hc => by rw [← hJ5]; exact ci_o hc
  have e5 : ∀ i, i < 8 → J5 (a + 4) i = J4 (x + 4) i := fun i hi => by rw [← hJ5]; exact ci_e hi
  refine ⟨x0, x + 5, x5, a0, a + 5, a5, ⟨by rw [t5], by rw [s5], by decide, by decide, by decide, by rw [t5]; decide, by rw [s5]; decide⟩, _, rfl, ?_⟩
  generalize hJ6 : am_ci J5 (x + 5) (a + 5) (Int32.toNatClampNeg (0 : Int32)) (Int32.toNatClampNeg (0 : Int32)) (Int32.toNatClampNeg (8 : Int32)) = J6
  have o6 : ∀ c, c ≠ a + 5 → J6 c = J5 c := fun c hc => by rw [← hJ6]; exact ci_o hc
  have e6 : ∀ i, i < 8 → J6 (a + 5) i = J5 (x + 5) i := fun i hi => by rw [← hJ6]; exact ci_e hi
  refine ⟨x0, x + 6, x6, a0, a + 6, a6, ⟨by rw [t6], by rw [s6], by decide, by decide, by decide, by rw [t6]; decide, by rw [s6]; decide⟩, _, rfl, ?_⟩
  generalize hJ7 : am_ci J6 (x + 6) (a + 6) (Int32.toNatClampNeg (0 : Int32)) (Int32.toNatClampNeg (0 : Int32)) (Int32.toNatClampNeg (8 : Int32)) = J7
  have o7 : ∀ c, c ≠ a + 6 → J7 c = J6 c := fun c hc => by rw [← hJ7]; exact ci_o hc
  have e7 : ∀ i, i < 8 → J7 (a + 6) i = J6 (x + 6) i := fun i hi => by rw [← hJ7]; exact ci_e hi
  refine ⟨x0, x + 7, x7, a0, a + 7, a7, ⟨by rw [t7], by rw [s7], by decide, by decide, by decide, by rw [t7]; decide, by rw [s7]; decide⟩, _, rfl, ?_⟩
  generalize hJ8 : am_ci J7 (x + 7) (a + 7) (Int32.toNatClampNeg (0 : Int32)) (Int32.toNatClampNeg (0 : Int32)) (Int32.toNatClampNeg (8 : Int32)) = J8
  have o8 : ∀ c, c ≠ a + 7 → J8 c = J7 c := fun c hc => by rw [← hJ8]; exact ci_o hc
  have e8 : ∀ i, i < 8 → J8 (a + 7) i = J7 (x + 7) i := fun i hi => by rw [← hJ8]; exact ci_e hi
  refine ⟨x0, a0, x0, a0, ?_⟩
  generalize hJ9 : am_u (am_u J8 a 9 (J8 x 9)) a 10 ((am_u J8 a 9 (J8 x 9)) x 10) = J9
  have o9 : ∀ c, c ≠ a → J9 c = J8 c := fun c hc => by rw [← hJ9, uu_h hc, uu_h hc]
  have e9 : J9 a 9 = J8 x 9 ∧ J9 a 10 = J8 x 10 := by
    rw [← hJ9]
    exact ⟨by rw [uu_n (by decide), uu_e], by rw [uu_e, uu_c (by omega)]⟩
  have n9 : ∀ j, j ≠ 9 → j ≠ 10 → J9 a j = J8 a j := fun j j1 j2 => by rw [← hJ9, uu_n j2, uu_n j1]
  refine ⟨x0, x + 8, x8, a0, a + 8, a8, ⟨by rw [t8], by rw [s8], by decide, by decide, by decide, by rw [t8]; decide, by rw [s8]; decide⟩, _, rfl, ?_⟩
  generalize hJ10 : am_ci J9 (x + 8) (a + 8) (Int32.toNatClampNeg (0 : Int32)) (Int32.toNatClampNeg (0 : Int32)) (Int32.toNatClampNeg (8 : Int32)) = J10
  have o10 : ∀ c, c ≠ a + 8 → J10 c = J9 c := fun c hc => by rw [← hJ10]; exact ci_o hc
  have e10 : ∀ i, i < 8 → J10 (a + 8) i = J9 (x + 8) i := fun i hi => by rw [← hJ10]; exact ci_e hi
  refine ⟨x0, x + 9, x9, a0, a + 9, a9, ⟨by rw [t9], by rw [s9], by decide, by decide, by decide, by rw [t9]; decide, by rw [s9]; decide⟩, _, rfl, ?_⟩
  generalize hJ11 : am_ci J10 (x + 9) (a + 9) (Int32.toNatClampNeg (0 : Int32)) (Int32.toNatClampNeg (0 : Int32)) (Int32.toNatClampNeg (8 : Int32)) = J11
  have o11 : ∀ c, c ≠ a + 9 → J11 c = J10 c := fun c hc => by rw [← hJ11]; exact ci_o hc
  have e11 : ∀ i, i < 8 → J11 (a + 9) i = J10 (x + 9) i := fun i hi => by rw [← hJ11]; exact ci_e hi
  refine ⟨x0, a0, ?_⟩
  generalize hJ12 : am_u J11 a 13 (J11 x 13) = J12
  have o12 : ∀ c, c ≠ a → J12 c = J11 c := fun c hc => by rw [← hJ12, uu_h hc]
  have e12 : J12 a 13 = J11 x 13 := by rw [← hJ12, uu_e]
  have n12 : ∀ j, j ≠ 13 → J12 a j = J11 a j := fun j j1 => by rw [← hJ12, uu_n j1]
  refine ⟨7, l80 (a := a) (x := x) (r := r) a0 x0 (fun r' hr => (hA r' hr).2.2.2.2.2.2.2.2.2.2.1) (fun r' hr => (hX r' hr).2.2.2.2.2.2.2.2.2.2.1) s10 t10 (by omega) hf hk (fun r' u hr => ?_) 6 0 r (by omega) (fun _ _ _ => rfl) (fun i hi => absurd hi (by omega))⟩
  obtain ⟨y0, y1, y2, y3, y4, y5, y6, y7, y8, y9, y10, y11, _⟩ := hA r' hr.1
  obtain ⟨z0, z1, z2, z3, z4, z5, z6, z7, z8, z9, z10, z11, _⟩ := hX r' hr.1
  refine ⟨x0, a0, x0, a0, x0, x + 11, z11, a0, a + 11, y11, a0, a + 11, y11, ⟨by rw [s11]; decide, by rw [s11]; decide⟩, ⟨by rw [t11], by rw [s11], by decide, by decide, by rw [s11]; decide, by rw [s11, t11]; decide, by rw [s11]; decide⟩, _, rfl, x0, a0, ?_⟩
  rw [s11]
  generalize hJ13 : am_u (am_u J12 a 15 (J12 x 15)) a 16 ((am_u J12 a 15 (J12 x 15)) x 16) = J13
  have o13 : ∀ c, c ≠ a → J13 c = J12 c := fun c hc => by rw [← hJ13, uu_h hc, uu_h hc]
  have e13 : J13 a 15 = J12 x 15 ∧ J13 a 16 = J12 x 16 := by
    rw [← hJ13]
    exact ⟨by rw [uu_n (by decide), uu_e], by rw [uu_e, uu_c (by omega)]⟩
  have n13 : ∀ j, j ≠ 15 → j ≠ 16 → J13 a j = J12 a j := fun j j1 j2 => by rw [← hJ13, uu_n j2, uu_n j1]
  generalize hJ14 : am_ci J13 (x + 11) (a + 11) (Int32.toNatClampNeg (0 : Int32)) (Int32.toNatClampNeg (0 : Int32)) (Int32.toNatClampNeg (Int32.ofNat (20, 4).2)) = J14
  have o14 : ∀ c, c ≠ a + 11 → J14 c = J13 c := fun c hc => by rw [← hJ14]; exact ci_o hc
  have e14 : ∀ i, i < 4 → J14 (a + 11) i = J13 (x + 11) i := fun i hi => by rw [← hJ14]; exact ci_e hi
  generalize hJ15 : am_u J14 a 18 (J14 x 18) = J15
  have o15 : ∀ c, c ≠ a → J15 c = J14 c := fun c hc => by rw [← hJ15, uu_h hc]
  have e15 : J15 a 18 = J14 x 18 := by rw [← hJ15, uu_e]
  have n15 : ∀ j, j ≠ 18 → J15 a j = J14 a j := fun j j1 => by rw [← hJ15, uu_n j1]
  have src : ∀ c, (c < a ∨ a + 12 ≤ c ∨ c = a + 10) → J1 c = I c ∧ J2 c = I c ∧ J3 c = I c ∧ J4 c = I c ∧ J5 c = I c ∧ J6 c = I c ∧ J7 c = I c ∧ J8 c = I c ∧ J9 c = I c ∧ J10 c = I c ∧ J11 c = I c ∧ J12 c = I c ∧ J13 c = I c ∧ J14 c = I c ∧ J15 c = I c := by
    intro c hc
    have q1 : J1 c = I c := (o1 c (by omega)).trans rfl
    have q2 : J2 c = I c := (o2 c (by omega)).trans q1
    have q3 : J3 c = I c := (o3 c (by omega)).trans q2
    have q4 : J4 c = I c := (o4 c (by omega)).trans q3
    have q5 : J5 c = I c := (o5 c (by omega)).trans q4
    have q6 : J6 c = I c := (o6 c (by omega)).trans q5
    have q7 : J7 c = I c := (o7 c (by omega)).trans q6
    have q8 : J8 c = I c := (o8 c (by omega)).trans q7
    have q9 : J9 c = I c := (o9 c (by omega)).trans q8
    have q10 : J10 c = I c := (o10 c (by omega)).trans q9
    have q11 : J11 c = I c := (o11 c (by omega)).trans q10
    have q12 : J12 c = I c := (o12 c (by omega)).trans q11
    have q13 : J13 c = I c := (o13 c (by omega)).trans q12
    have q14 : J14 c = I c := (o14 c (by omega)).trans q13
    have q15 : J15 c = I c := (o15 c (by omega)).trans q14
    exact ⟨q1, q2, q3, q4, q5, q6, q7, q8, q9, q10, q11, q12, q13, q14, q15⟩
  refine hK r' J15 hr ⟨fun c hc => (src c hc).2.2.2.2.2.2.2.2.2.2.2.2.2.2, fun k hk' => ⟨?_, ?_⟩, fun i k i1 i2 hk' => ?_, fun k hk' => ?_, fun j hj => ?_⟩
  · rw [o15 (a + 1) (by omega), o14 (a + 1) (by omega), o13 (a + 1) (by omega), o12 (a + 1) (by omega), o11 (a + 1) (by omega), o10 (a + 1) (by omega), o9 (a + 1) (by omega), o8 (a + 1) (by omega), o7 (a + 1) (by omega), o6 (a + 1) (by omega), o5 (a + 1) (by omega), o4 (a + 1) (by omega), o3 (a + 1) (by omega), o2 (a + 1) (by omega), e1 k hk']
  · rw [o15 (a + 2) (by omega), o14 (a + 2) (by omega), o13 (a + 2) (by omega), o12 (a + 2) (by omega), o11 (a + 2) (by omega), o10 (a + 2) (by omega), o9 (a + 2) (by omega), o8 (a + 2) (by omega), o7 (a + 2) (by omega), o6 (a + 2) (by omega), o5 (a + 2) (by omega), o4 (a + 2) (by omega), o3 (a + 2) (by omega), e2 k hk', (src (x + 2) (by omega)).1]
  · rcases (by omega : i = 3 ∨ i = 4 ∨ i = 5 ∨ i = 6 ∨ i = 7 ∨ i = 8 ∨ i = 9) with rfl | rfl | rfl | rfl | rfl | rfl | rfl
    · rw [o15 (a + 3) (by omega), o14 (a + 3) (by omega), o13 (a + 3) (by omega), o12 (a + 3) (by omega), o11 (a + 3) (by omega), o10 (a + 3) (by omega), o9 (a + 3) (by omega), o8 (a + 3) (by omega), o7 (a + 3) (by omega), o6 (a + 3) (by omega), o5 (a + 3) (by omega), e4 k hk', (src (x + 3) (by omega)).2.2.1]
    · rw [o15 (a + 4) (by omega), o14 (a + 4) (by omega), o13 (a + 4) (by omega), o12 (a + 4) (by omega), o11 (a + 4) (by omega), o10 (a + 4) (by omega), o9 (a + 4) (by omega), o8 (a + 4) (by omega), o7 (a + 4) (by omega), o6 (a + 4) (by omega), e5 k hk', (src (x + 4) (by omega)).2.2.2.1]
    · rw [o15 (a + 5) (by omega), o14 (a + 5) (by omega), o13 (a + 5) (by omega), o12 (a + 5) (by omega), o11 (a + 5) (by omega), o10 (a + 5) (by omega), o9 (a + 5) (by omega), o8 (a + 5) (by omega), o7 (a + 5) (by omega), e6 k hk', (src (x + 5) (by omega)).2.2.2.2.1]
    · rw [o15 (a + 6) (by omega), o14 (a + 6) (by omega), o13 (a + 6) (by omega), o12 (a + 6) (by omega), o11 (a + 6) (by omega), o10 (a + 6) (by omega), o9 (a + 6) (by omega), o8 (a + 6) (by omega), e7 k hk', (src (x + 6) (by omega)).2.2.2.2.2.1]
    · rw [o15 (a + 7) (by omega), o14 (a + 7) (by omega), o13 (a + 7) (by omega), o12 (a + 7) (by omega), o11 (a + 7) (by omega), o10 (a + 7) (by omega), o9 (a + 7) (by omega), e8 k hk', (src (x + 7) (by omega)).2.2.2.2.2.2.1]
    · rw [o15 (a + 8) (by omega), o14 (a + 8) (by omega), o13 (a + 8) (by omega), o12 (a + 8) (by omega), o11 (a + 8) (by omega), e10 k hk', (src (x + 8) (by omega)).2.2.2.2.2.2.2.2.1]
    · rw [o15 (a + 9) (by omega), o14 (a + 9) (by omega), o13 (a + 9) (by omega), o12 (a + 9) (by omega), e11 k hk', (src (x + 9) (by omega)).2.2.2.2.2.2.2.2.2.1]
  · rw [o15 (a + 11) (by omega), e14 k hk', (src (x + 11) (by omega)).2.2.2.2.2.2.2.2.2.2.2.2.1]
  · rcases hj with rfl | rfl | rfl | rfl | rfl | rfl | rfl | rfl
    · rw [n15 2 (by decide), o14 a (by omega), n13 2 (by decide) (by decide), n12 2 (by decide), o11 a (by omega), o10 a (by omega), n9 2 (by decide) (by decide), o8 a (by omega), o7 a (by omega), o6 a (by omega), o5 a (by omega), o4 a (by omega), e3.1, (src (x) (by omega)).2.1]
    · rw [n15 3 (by decide), o14 a (by omega), n13 3 (by decide) (by decide), n12 3 (by decide), o11 a (by omega), o10 a (by omega), n9 3 (by decide) (by decide), o8 a (by omega), o7 a (by omega), o6 a (by omega), o5 a (by omega), o4 a (by omega), e3.2, (src (x) (by omega)).2.1]
    · rw [n15 9 (by decide), o14 a (by omega), n13 9 (by decide) (by decide), n12 9 (by decide), o11 a (by omega), o10 a (by omega), e9.1, (src (x) (by omega)).2.2.2.2.2.2.2.1]
    · rw [n15 10 (by decide), o14 a (by omega), n13 10 (by decide) (by decide), n12 10 (by decide), o11 a (by omega), o10 a (by omega), e9.2, (src (x) (by omega)).2.2.2.2.2.2.2.1]
    · rw [n15 13 (by decide), o14 a (by omega), n13 13 (by decide) (by decide), e12, (src (x) (by omega)).2.2.2.2.2.2.2.2.2.2.1]
    · rw [n15 15 (by decide), o14 a (by omega), e13.1, (src (x) (by omega)).2.2.2.2.2.2.2.2.2.2.2.1]
    · rw [n15 16 (by decide), o14 a (by omega), e13.2, (src (x) (by omega)).2.2.2.2.2.2.2.2.2.2.2.1]
    · rw [e15, (src (x) (by omega)).2.2.2.2.2.2.2.2.2.2.2.2.2.1]
