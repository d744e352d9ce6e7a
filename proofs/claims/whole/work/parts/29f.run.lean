/-! orders: what is kept before the run, and brought back where it can't be done -/
def PSU (T : Nat → Nat × Nat) (r : Nat → Nat → Option Nat) (a : Nat) : Prop := (am_ts T a).1 = 3 ∧ am_rs r a 1 = some (a + 1) ∧ am_rs r a 2 = some (a + 2) ∧ am_rs r a 3 = some (a + 3) ∧ am_rs r a 4 = some (a + 4) ∧ am_rs r a 5 = some (a + 5) ∧ am_ts T (a + 1) = (20, 16) ∧ am_ts T (a + 2) = (20, 16) ∧ am_ts T (a + 3) = (20, 16) ∧ am_ts T (a + 4) = (20, 16) ∧ am_ts T (a + 5) = (20, 16)
theorem PSU_29 (T : Nat → Nat × Nat) (r : Nat → Nat → Option Nat) : PSU T r 29 := ⟨rfl, rfl, rfl, rfl, rfl, rfl, rfl, rfl, rfl, rfl, rfl⟩
theorem PSU_48 (T : Nat → Nat × Nat) (r : Nat → Nat → Option Nat) : PSU T r 48 := ⟨rfl, rfl, rfl, rfl, rfl, rfl, rfl, rfl, rfl, rfl, rfl⟩
theorem q81 {a x : Nat} {T : Nat → Nat × Nat} {r : Nat → Nat → Option Nat} {I : am_I} {K : am_I → Prop} (hA : PSU T r a) (hX : PSU T r x) (hd : a + 6 ≤ x ∨ x + 6 ≤ a) (hK : ∀ J, (∀ c, (c < a ∨ a + 6 ≤ c) → J c = I c) → J a 0 = I x 0 → (∀ i k, 1 ≤ i → i ≤ 5 → k < 16 → J (a + i) k = I (x + i) k) → K J) : w_81 a x T r I K := by
  obtain ⟨a0, a1, a2, a3, a4, a5, s1, s2, s3, s4, s5⟩ := hA
  obtain ⟨x0, x1, x2, x3, x4, x5, t1, t2, t3, t4, t5⟩ := hX
  unfold w_81
  refine ⟨x0, a0, x0, x + 1, x1, a0, a + 1, a1, ⟨by rw [t1], by rw [s1], by decide, by decide, by decide, by rw [t1]; decide, by rw [s1]; decide⟩, _, rfl, ?_⟩
  generalize hJ0 : am_u I a 0 (I x 0) = J0
  have o0 : ∀ c, c ≠ a → J0 c = I c := fun c hc => by rw [← hJ0, uu_h hc]
  have e0 : J0 a 0 = I x 0 := by rw [← hJ0, uu_e]
  generalize hJ1 : am_ci J0 (x + 1) (a + 1) (Int32.toNatClampNeg (0 : Int32)) (Int32.toNatClampNeg (0 : Int32)) (Int32.toNatClampNeg (16 : Int32)) = J1
  have o1 : ∀ c, c ≠ a + 1 → J1 c = J0 c := fun c hc => by rw [← hJ1]; exact ci_o hc
  have e1 : ∀ i, i < 16 → J1 (a + 1) i = J0 (x + 1) i := fun i hi => by rw [← hJ1]; exact ci_e hi
  refine ⟨x0, x + 2, x2, a0, a + 2, a2, ⟨by rw [t2], by rw [s2], by decide, by decide, by decide, by rw [t2]; decide, by rw [s2]; decide⟩, _, rfl, ?_⟩
  generalize hJ2 : am_ci J1 (x + 2) (a + 2) (Int32.toNatClampNeg (0 : Int32)) (Int32.toNatClampNeg (0 : Int32)) (Int32.toNatClampNeg (16 : Int32)) = J2
  have o2 : ∀ c, c ≠ a + 2 → J2 c = J1 c := fun c hc => by rw [← hJ2]; exact ci_o hc
  have e2 : ∀ i, i < 16 → J2 (a + 2) i = J1 (x + 2) i := fun i hi => by rw [← hJ2]; exact ci_e hi
  refine ⟨x0, x + 3, x3, a0, a + 3, a3, ⟨by rw [t3], by rw [s3], by decide, by decide, by decide, by rw [t3]; decide, by rw [s3]; decide⟩, _, rfl, ?_⟩
  generalize hJ3 : am_ci J2 (x + 3) (a + 3) (Int32.toNatClampNeg (0 : Int32)) (Int32.toNatClampNeg (0 : Int32)) (Int32.toNatClampNeg (16 : Int32)) = J3
  have o3 : ∀ c, c ≠ a + 3 → J3 c = J2 c := fun c hc => by rw [← hJ3]; exact ci_o hc
  have e3 : ∀ i, i < 16 → J3 (a + 3) i = J2 (x + 3) i := fun i hi => by rw [← hJ3]; exact ci_e hi
  refine ⟨x0, x + 4, x4, a0, a + 4, a4, ⟨by rw [t4], by rw [s4], by decide, by decide, by decide, by rw [t4]; decide, by rw [s4]; decide⟩, _, rfl, ?_⟩
  generalize hJ4 : am_ci J3 (x + 4) (a + 4) (Int32.toNatClampNeg (0 : Int32)) (Int32.toNatClampNeg (0 : Int32)) (Int32.toNatClampNeg (16 : Int32)) = J4
  have o4 : ∀ c, c ≠ a + 4 → J4 c = J3 c := fun c hc => by rw [← hJ4]; exact ci_o hc
  have e4 : ∀ i, i < 16 → J4 (a + 4) i = J3 (x + 4) i := fun i hi => by rw [← hJ4]; exact ci_e hi
  refine ⟨x0, x + 5, x5, a0, a + 5, a5, ⟨by rw [t5], by rw [s5], by decide, by decide, by decide, by rw [t5]; decide, by rw [s5]; decide⟩, _, rfl, ?_⟩
  generalize hJ5 : am_ci J4 (x + 5) (a + 5) (Int32.toNatClampNeg (0 : Int32)) (Int32.toNatClampNeg (0 : Int32)) (Int32.toNatClampNeg (16 : Int32)) = J5
  have o5 : ∀ c, c ≠ a + 5 → J5 c = J4 c := fun c hc => by rw [← hJ5]; exact ci_o hc
  have e5 : ∀ i, i < 16 → J5 (a + 5) i = J4 (x + 5) i := fun i hi => by rw [← hJ5]; exact ci_e hi
  have src : ∀ c, (c < a ∨ a + 6 ≤ c) → J0 c = I c ∧ J1 c = I c ∧ J2 c = I c ∧ J3 c = I c ∧ J4 c = I c ∧ J5 c = I c := by
    intro c hc
    have q0 : J0 c = I c := o0 c (by omega)
    have q1 : J1 c = I c := (o1 c (by omega)).trans q0
    have q2 : J2 c = I c := (o2 c (by omega)).trans q1
    have q3 : J3 c = I c := (o3 c (by omega)).trans q2
    have q4 : J4 c = I c := (o4 c (by omega)).trans q3
    have q5 : J5 c = I c := (o5 c (by omega)).trans q4
    exact ⟨q0, q1, q2, q3, q4, q5⟩
  refine hK J5 (fun c hc => (src c hc).2.2.2.2.2) ?_ (fun i k i1 i2 hk => ?_)
  · rw [o5 a (by omega), o4 a (by omega), o3 a (by omega), o2 a (by omega), o1 a (by omega), e0]
  · rcases (by omega : i = 1 ∨ i = 2 ∨ i = 3 ∨ i = 4 ∨ i = 5) with rfl | rfl | rfl | rfl | rfl
    · rw [o5 (a + 1) (by omega), o4 (a + 1) (by omega), o3 (a + 1) (by omega), o2 (a + 1) (by omega), e1 k hk, (src (x + 1) (by omega)).1]
    · rw [o5 (a + 2) (by omega), o4 (a + 2) (by omega), o3 (a + 2) (by omega), e2 k hk, (src (x + 2) (by omega)).2.1]
    · rw [o5 (a + 3) (by omega), o4 (a + 3) (by omega), e3 k hk, (src (x + 3) (by omega)).2.2.1]
    · rw [o5 (a + 4) (by omega), e4 k hk, (src (x + 4) (by omega)).2.2.2.1]
    · rw [e5 k hk, (src (x + 5) (by omega)).2.2.2.2.1]
theorem l291a {I : am_I} {L : am_J} {v1 : Int32} {E : Int32 → am_I → Prop} (hE : ∀ v, E v (cpl I 73 (I 71) 0 336)) : ∀ k j, j + k = 336 → lw_291_77 (k + 1) v1 (nI j) (cpl I 73 (I 71) 0 j) L E
  | 0, j, h => by
    have hj : j = 336 := by omega
    subst hj
    unfold lw_291_77
    rw [if_pos (show (336 : Int32) ≤ nI 336 from nI_le (a := 336) (Nat.le_refl _) (by decide))]
    exact hE _
  | k + 1, j, h => by
    have ih := l291a (L := L) (v1 := v1) hE k (j + 1) (by omega)
    unfold lw_291_77
    rw [if_neg (show ¬ (336 : Int32) ≤ nI j from nI_ge (b := 336) (by omega) (by decide))]
    refine ⟨nb_gd (by omega) (by decide), nb_gd (by omega) (by decide), ?_⟩
    rw [nI_clamp (by omega), ← nI_succ]
    rw [show cpl I 73 (I 71) 0 j 71 j = I 71 j from (by rw [cpl_c (by decide)])]
    rw [cpl_s0]
    exact ih
theorem l291b {I : am_I} {L : am_J} {v1 : Int32} {E : Int32 → am_I → Prop} (hE : ∀ v, E v (cpl I 74 (I 72) 0 16)) : ∀ k j, j + k = 16 → lw_291_104 (k + 1) v1 (nI j) (cpl I 74 (I 72) 0 j) L E
  | 0, j, h => by
    have hj : j = 16 := by omega
    subst hj
    unfold lw_291_104
    rw [if_pos (show (16 : Int32) ≤ nI 16 from nI_le (a := 16) (Nat.le_refl _) (by decide))]
    exact hE _
  | k + 1, j, h => by
    have ih := l291b (L := L) (v1 := v1) hE k (j + 1) (by omega)
    unfold lw_291_104
    rw [if_neg (show ¬ (16 : Int32) ≤ nI j from nI_ge (b := 16) (by omega) (by decide))]
    refine ⟨nb_gd (by omega) (by decide), nb_gd (by omega) (by decide), ?_⟩
    rw [nI_clamp (by omega), ← nI_succ]
    rw [show cpl I 74 (I 72) 0 j 72 j = I 72 j from (by rw [cpl_c (by decide)])]
    rw [cpl_s0]
    exact ih
theorem l297a {I : am_I} {v1 : Int32} {E : Int32 → am_I → Prop} (hE : ∀ v, E v (cpl I 71 (I 73) 0 336)) : ∀ k j, j + k = 336 → lw_297_8 (k + 1) v1 (nI j) (cpl I 71 (I 73) 0 j) E
  | 0, j, h => by
    have hj : j = 336 := by omega
    subst hj
    unfold lw_297_8
    rw [if_pos (show (336 : Int32) ≤ nI 336 from nI_le (a := 336) (Nat.le_refl _) (by decide))]
    exact hE _
  | k + 1, j, h => by
    have ih := l297a (v1 := v1) hE k (j + 1) (by omega)
    unfold lw_297_8
    rw [if_neg (show ¬ (336 : Int32) ≤ nI j from nI_ge (b := 336) (by omega) (by decide))]
    refine ⟨nb_gd (by omega) (by decide), nb_gd (by omega) (by decide), ?_⟩
    rw [nI_clamp (by omega), ← nI_succ]
    rw [show cpl I 71 (I 73) 0 j 73 j = I 73 j from (by rw [cpl_c (by decide)])]
    rw [cpl_s0]
    exact ih
theorem l297b {I : am_I} {v1 : Int32} {E : Int32 → am_I → Prop} (hE : ∀ v, E v (cpl I 72 (I 74) 0 16)) : ∀ k j, j + k = 16 → lw_297_35 (k + 1) v1 (nI j) (cpl I 72 (I 74) 0 j) E
  | 0, j, h => by
    have hj : j = 16 := by omega
    subst hj
    unfold lw_297_35
    rw [if_pos (show (16 : Int32) ≤ nI 16 from nI_le (a := 16) (Nat.le_refl _) (by decide))]
    exact hE _
  | k + 1, j, h => by
    have ih := l297b (v1 := v1) hE k (j + 1) (by omega)
    unfold lw_297_35
    rw [if_neg (show ¬ (16 : Int32) ≤ nI j from nI_ge (b := 16) (by omega) (by decide))]
    refine ⟨nb_gd (by omega) (by decide), nb_gd (by omega) (by decide), ?_⟩
    rw [nI_clamp (by omega), ← nI_succ]
    rw [show cpl I 72 (I 74) 0 j 74 j = I 74 j from (by rw [cpl_c (by decide)])]
    rw [cpl_s0]
    exact ih
theorem cpl_i0 {I : am_I} {a j i : Nat} {f : Nat → Int32} (h : i < j) : cpl I a f 0 j a i = f i := by
  have k := cpl_in (I := I) (a := a) (o := 0) (f := f) h
  rw [Nat.zero_add] at k
  exact k
theorem q297 {I : am_I} {x : Int32} {K : am_I → Prop} (hK : ∀ J, (∀ c, c ≠ 66 → c ≠ 68 → c ≠ 71 → c ≠ 72 → J c = I c) → (∀ i, i ≠ 8 → J 66 i = I 66 i) → J 66 8 = x → (∀ i, (i < 5 ∨ 26 ≤ i) → J 68 i = I 68 i) → (∀ i, i < 21 → J 68 (5 + i) = I 71 (357 + i)) → (∀ k, k < 336 → J 71 k = I 73 k) → (∀ k, k < 16 → J 72 k = I 74 k) → K J) : w_297 x I K := by
  unfold w_297
  refine (show w_180 (nI 17) I _ from q180 (by decide) ?_)
  generalize hA : cpl I 68 (fun i => I 71 (21 * 17 + i)) 5 21 = A
  have q1 := l297a (I := A) (v1 := x) (E := fun _ I3 => ∃ n35, lw_297_35 n35 x 0 I3 (fun _ I5 => K (am_u I5 66 8 x)))
  refine ⟨337, ?_⟩
  have q2 := q1 (fun _ => ?_) 336 0 (by omega)
  · rw [cpl_0] at q2
    exact q2
  · generalize hB : cpl A 71 (A 73) 0 336 = B
    have q3 := l297b (I := B) (v1 := x) (E := fun _ I5 => K (am_u I5 66 8 x))
    refine ⟨17, ?_⟩
    have q4 := q3 (fun _ => ?_) 16 0 (by omega)
    · rw [cpl_0] at q4
      exact q4
    · show K (am_u (cpl B 72 (B 74) 0 16) 66 8 x)
      refine hK _ (fun c c1 c2 c3 c4 => ?_) (fun i hi => ?_) uu_e (fun i hi => ?_) (fun i hi => ?_) (fun k hk => ?_) (fun k hk => ?_)
      · rw [uu_h c1, cpl_c c4, ← hB, cpl_c c3, ← hA, cpl_c c2]
      · rw [uu_n hi, cpl_c (by decide), ← hB, cpl_c (by decide), ← hA, cpl_c (by decide)]
      · rw [uu_h (by decide), cpl_c (by decide), ← hB, cpl_c (by decide), ← hA, cpl_out (by omega)]
      · rw [uu_h (by decide), cpl_c (by decide), ← hB, cpl_c (by decide), ← hA, cpl_in hi]
      · rw [uu_h (by decide), cpl_c (by decide), ← hB, cpl_i0 hk, ← hA, cpl_c (by decide)]
      · rw [uu_h (by decide), cpl_i0 hk, ← hB, cpl_c (by decide), ← hA, cpl_c (by decide)]
/-- what the run of the reference changes -/
def frV4 (G F : am_I) (H H' : am_J) : Prop := (∀ c, c ≠ 66 → c ≠ 68 → (c < 71 ∨ 74 < c) → F c = G c) ∧ (∀ k, k ≠ 8 → k ≠ 20 → k ≠ 38 → k ≠ 54 → k ≠ 55 → k ≠ 57 → F 66 k = G 66 k) ∧ (G 66 20 = 0 → F 66 20 = 0) ∧ ∀ c, c ≠ 66 → c ≠ 85 → c ≠ 86 → H' c = H c
theorem q_run {V V' : am_I} {u u' dn' b s : Nat} {fd' : Int32} {good : Prop} {l : List CLD} {M : Nat → Nat × Nat} {mk : Nat → Nat → Nat} {G : am_I} {H : am_J} {K : Int32 → am_I → am_J → Prop} (cr : CLR l.length 0 l V V' u u' 0 dn' (-1) fd' good b) (rn : RNv G V u) (hu : u ≤ 16) (dq : DQ l s M mk G) (e21 : G 66 21 = nI l.length) (kG : good → ∀ F H', RNv F V' u' → F 66 54 = nI dn' → frV4 G F H H' → w_179 (F 66 54) F (fun q I => K q I H')) (kB : ¬ good → ∀ F H', F 68 = G 68 → (∀ k, k < 336 → F 71 k = G 71 k) → (∀ k, k < 16 → F 72 k = G 72 k) → F 66 8 = nI u → frV4 G F H H' → w_179 (-3) (am_u F 66 56 (nI b)) (fun q I => K q I H')) : RUN4 G H K := by
  unfold RUN4
  refine (show w_256 (nI 17) G _ from q256 (by decide) ?_)
  generalize hA : cpl G 71 (fun i => G 68 (5 + i)) (21 * 17) 21 = A
  have A66 : A 66 = G 66 := by rw [← hA, cpl_c (by decide)]
  have e8 : A 66 8 = nI u := by rw [A66]; exact rn.2.1
  show ∃ n77, lw_291_77 n77 (A 66 8) 0 A H _
  rw [e8]
  have q1 := l291a (I := A) (L := H) (v1 := nI u) (E := fun _ I9 => ∃ n104, lw_291_104 n104 (nI u) 0 I9 H (fun _ I11 => ∃ n140, lw_291_140 n140 (nI u) 0 (am_u (am_u I11 66 54 0) 66 55 (-1)) H (fun _ I22 L23 => w_179 (I22 66 54) I22 (fun q24 I25 => K q24 I25 L23)) K))
  refine ⟨337, ?_⟩
  have q2 := q1 (fun _ => ?_) 336 0 (by omega)
  · rw [cpl_0] at q2
    exact q2
  generalize hB : cpl A 73 (A 71) 0 336 = B
  have q3 := l291b (I := B) (L := H) (v1 := nI u) (E := fun _ I11 => ∃ n140, lw_291_140 n140 (nI u) 0 (am_u (am_u I11 66 54 0) 66 55 (-1)) H (fun _ I22 L23 => w_179 (I22 66 54) I22 (fun q24 I25 => K q24 I25 L23)) K)
  refine ⟨17, ?_⟩
  have q4 := q3 (fun _ => ?_) 16 0 (by omega)
  · rw [cpl_0] at q4
    exact q4
  generalize hC : cpl B 74 (B 72) 0 16 = C
  obtain ⟨S, hS⟩ : ∃ S, S = am_u (am_u C 66 54 0) 66 55 (-1) := ⟨_, rfl⟩
  show ∃ n140, lw_291_140 n140 (nI u) 0 (am_u (am_u C 66 54 0) 66 55 (-1)) H _ K
  rw [← hS]
  have S0 : ∀ c, c ≠ 66 → c ≠ 71 → c ≠ 73 → c ≠ 74 → S c = G c := fun c c1 c2 c3 c4 => by rw [hS, uu_h c1, uu_h c1, ← hC, cpl_c c4, ← hB, cpl_c c3, ← hA, cpl_c c2]
  have S66 : ∀ i, i ≠ 54 → i ≠ 55 → S 66 i = G 66 i := fun i i1 i2 => by rw [hS, uu_n i2, uu_n i1, ← hC, cpl_c (by decide), ← hB, cpl_c (by decide), A66]
  have C71 : S 71 = A 71 := by rw [hS, uu_h (by decide), uu_h (by decide), ← hC, cpl_c (by decide), ← hB, cpl_c (by decide)]
  have S71 : ∀ k, k < 357 → S 71 k = G 71 k := fun k hk => by rw [C71, ← hA, cpl_out (by omega)]
  have S71r : ∀ i, i < 21 → S 71 (357 + i) = G 68 (5 + i) := fun i hi => by
    rw [C71, ← hA]
    exact cpl_in (o := 21 * 17) hi
  have S73 : ∀ k, k < 336 → S 73 k = G 71 k := fun k hk => by rw [hS, uu_h (by decide), uu_h (by decide), ← hC, cpl_c (by decide), ← hB, cpl_i0 hk, ← C71, S71 k (by omega)]
  have S74 : ∀ k, k < 16 → S 74 k = G 72 k := fun k hk => by rw [hS, uu_h (by decide), uu_h (by decide), ← hC, cpl_i0 hk, ← hB, cpl_c (by decide), ← hA, cpl_c (by decide)]
  have rS : RNv S V u := ⟨by rw [S0 68 (by decide) (by decide) (by decide) (by decide)]; exact rn.1, by rw [S66 8 (by decide) (by decide)]; exact rn.2.1, rn.2.2.1, fun k hk => by rw [S71 k (by omega)]; exact rn.2.2.2.1 k hk, fun j hj => by rw [S0 72 (by decide) (by decide) (by decide) (by decide)]; exact rn.2.2.2.2 j hj⟩
  have dS : DQ l s M mk S := DQ_cg dq (S0 77 (by decide) (by decide) (by decide) (by decide)) (S0 78 (by decide) (by decide) (by decide) (by decide)) (S0 97 (by decide) (by decide) (by decide) (by decide))
  have fS : ∀ F H', fqW S F H H' → frV4 G F H H' := fun F H' f => ⟨fun c c1 c2 c3 => by rw [f.1 c c1 c2 (by omega) (by omega)]; exact S0 c c1 (by omega) (by omega) (by omega), fun k k1 k2 k3 k4 k5 k6 => by rw [f.2.1 k k1 k2 k3 k4 k5 k6]; exact S66 k k4 k5, fun z => f.2.2.1 (by rw [S66 20 (by decide) (by decide)]; exact z), f.2.2.2.2.2⟩
  refine ⟨l.length + 1, cr s M mk S H (nI u) _ _ rS (by rw [hS, uu_n (by decide)]; exact uu_e) (by rw [hS, uu_e]) dS (by rw [S66 21 (by decide) (by decide)]; exact e21) (fun g y F H' r1 r2 r3 f => kG g F H' r1 r2 (fS F H' f)) (fun g F H' f => ?_)⟩
  have fs := fS F H' f
  refine q297 (fun J j1 j2 j3 j4 j5 j6 j7 => ?_)
  refine kB g J H' ?_ (fun k hk => ?_) (fun k hk => ?_) j3 ⟨fun c c1 c2 c3 => by rw [j1 c c1 c2 (by omega) (by omega)]; exact fs.1 c c1 c2 c3, fun k k1 k2 k3 k4 k5 k6 => by rw [j2 k k1]; exact fs.2.1 k k1 k2 k3 k4 k5 k6, fun z => by rw [j2 20 (by decide)]; exact fs.2.2.1 z, fs.2.2.2⟩
  · funext i
    by_cases w : i < 5 ∨ 26 ≤ i
    · rw [j4 i w, f.2.2.2.2.1 i w, S0 68 (by decide) (by decide) (by decide) (by decide)]
    · obtain ⟨i', ei⟩ : ∃ i', i = 5 + i' := ⟨i - 5, by omega⟩
      rw [ei, j5 i' (by omega), f.2.2.2.1 _ (by omega), S71r i' (by omega)]
  · rw [j6 k hk, f.1 73 (by decide) (by decide) (by decide) (by decide), S73 k hk]
  · rw [j7 k hk, f.1 74 (by decide) (by decide) (by decide) (by decide), S74 k hk]
