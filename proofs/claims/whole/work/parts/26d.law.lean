/-! law: the class keeps what it read -/
theorem mx0 {n : Nat} (h : n < 2 ^ 31) : (if (0 : Int32) < nI n then nI n else (0 : Int32)) = nI n := by
  by_cases c : (0 : Int32) < nI n
  · rw [if_pos c]
  · rw [if_neg c]
    have z : n = 0 := by
      by_cases e : n = 0
      · exact e
      · exact absurd ((nb_lt (a := 0) (by decide) h).mpr (by omega)) c
    rw [z]
    rfl
theorem q3t {a N s nc : Nat} {T : Nat → Nat × Nat} {r : Nat → Nat → Option Nat} {G : am_I} {L : am_J} {K : Nat → (Nat → Nat × Nat) → (Nat → Nat → Option Nat) → am_I → am_J → Prop} (ha : 99 ≤ a) (hN : a < N) (ta : T a = (11, 0)) (hs : s ≤ 400) (hn : nc ≤ 12) (hK : ∀ T' r' J L', (∀ b, b < N ∨ N + 4 ≤ b → T' b = T b) → T' N = (20, s) → T' (N + 1) = (20, nc) → T' (N + 2) = (20, nc) → T' (N + 3) = (20, nc * 5) → (∀ b j, b ≠ a → (b < N ∨ N + 4 ≤ b) → r' b j = r b j) → r' a 0 = some N → r' a 3 = some (N + 1) → r' a 4 = some (N + 2) → r' a 5 = some (N + 3) → (∀ b, b < N ∨ N + 4 ≤ b → J b = G b) → (∀ b, b < N ∨ N + 4 ≤ b → L' b = L b) → K (N + 4) T' r' J L') : w_3 a (nI s) (nI nc) N T r G L K := by
  have x5 : nI nc * 5 = nI (nc * 5) := by rw [show (5 : Int32) = nI 5 from rfl, nb_mul]
  unfold w_3
  rw [mx0 (by omega), mx0 (by omega), x5, nI_clamp (by omega : s < 2 ^ 31), nI_clamp (by omega : nc < 2 ^ 31), nI_clamp (by omega : nc * 5 < 2 ^ 31)]
  refine ⟨by omega, fun q => q.elim (fun z => nI_pos (by omega) z) (fun z => by omega), ⟨by decide, by omega⟩, am_fr_hi ha, ?_, by omega, fun q => q.elim (fun z => nI_pos (by omega) z) (fun z => by omega), ⟨by decide, by omega⟩, am_fr_hi ha, ?_, by omega, fun q => q.elim (fun z => nI_pos (by omega) z) (fun z => by omega), ⟨by decide, by omega⟩, am_fr_hi ha, ?_, by omega, fun q => q.elim (fun z => nI_pos (by omega) z) (fun z => by omega), ⟨by decide, by omega⟩, am_fr_hi ha, ?_, ?_⟩
  · rw [am_ts_hi ha, tn_o (by omega), ta]
  · rw [am_ts_hi ha, tn_o (by omega), tn_o (by omega), ta]
  · rw [am_ts_hi ha, tn_o (by omega), tn_o (by omega), tn_o (by omega), ta]
  · rw [am_ts_hi ha, tn_o (by omega), tn_o (by omega), tn_o (by omega), tn_o (by omega), ta]
  · refine hK _ _ _ _ (fun b hb => ?_) ?_ ?_ ?_ ?_ (fun b j b1 hb => ?_) ?_ ?_ ?_ ?_ (fun b hb => ?_) (fun b hb => ?_)
    · rw [tn_o (by omega), tn_o (by omega), tn_o (by omega), tn_o (by omega)]
    · rw [tn_o (by omega), tn_o (by omega), tn_o (by omega), tn_e rfl]
    · rw [tn_o (by omega), tn_o (by omega), tn_e rfl]
    · rw [tn_o (by omega), tn_e rfl]
    · rw [tn_e rfl]
    · rw [uu_c b1, z_o (by omega), uu_c b1, z_o (by omega), uu_c b1, z_o (by omega), uu_c b1, z_o (by omega)]
    · rw [uu_n (by decide), z_o (by omega), uu_n (by decide), z_o (by omega), uu_n (by decide), z_o (by omega), uu_e]
    · rw [uu_n (by decide), z_o (by omega), uu_n (by decide), z_o (by omega), uu_e]
    · rw [uu_n (by decide), z_o (by omega), uu_e]
    · rw [uu_e]
    · funext j
      rw [z_o (by omega), z_o (by omega), z_o (by omega), z_o (by omega)]
    · funext j
      rw [z_o (by omega), z_o (by omega), z_o (by omega), z_o (by omega)]
/-- a new text at N -/
def ntx (N s nc : Nat) (T T' : Nat → Nat × Nat) (r r' : Nat → Nat → Option Nat) (G J : am_I) (L L' : am_J) : Prop := (∀ b, b < N → T' b = T b ∧ (∀ j, r' b j = r b j) ∧ J b = G b ∧ L' b = L b) ∧ T' N = (11, 0) ∧ T' (N + 1) = (20, s) ∧ T' (N + 2) = (20, nc) ∧ T' (N + 4) = (20, nc * 5) ∧ r' N 0 = some (N + 1) ∧ r' N 3 = some (N + 2) ∧ r' N 5 = some (N + 4) ∧ J N 1 = nI s ∧ J N 2 = nI nc ∧ (∀ k, k < s → J (N + 1) k = G 17 k) ∧ (∀ k, k < nc → J (N + 2) k = G 18 k) ∧ ∀ k, k < nc * 5 → J (N + 4) k = G 20 k
theorem q76 {N s nc : Nat} {T : Nat → Nat × Nat} {r : Nat → Nat → Option Nat} {G : am_I} {L : am_J} {K : Option Nat → Nat → (Nat → Nat × Nat) → (Nat → Nat → Option Nat) → am_I → am_J → Prop} (hN : 99 ≤ N) (e1 : G 16 1 = nI s) (e2 : G 16 2 = nI nc) (hs : s ≤ 400) (hn : nc ≤ 12) (hK : ∀ T' r' J L', ntx N s nc T T' r r' G J L L' → K (some N) (N + 5) T' r' J L') : w_76 N T r G L K := by
  have z16 : ∀ j, (am_z G N 0) 16 j = G 16 j := fun j => z_o (by omega)
  unfold w_76
  rw [z16, z16, e1, e2]
  refine ⟨hN, by rw [am_ts_hi hN, tn_e rfl], ?_⟩
  refine q3t hN (by omega) (tn_e rfl) hs hn (fun T' r' J L' t1 t2 t3 t4 t5 a1 a2 a3 a4 a5 j1 l1 => ?_)
  have tN : (am_ts T' N).1 = 11 := by rw [am_ts_hi hN, t1 N (Or.inl (by omega)), tn_e rfl]
  have J16 : ∀ j, J 16 j = G 16 j := fun j => by rw [j1 16 (Or.inl (by omega))]; exact z16 j
  have c1 : (am_ts T' (N + 1)) = (20, s) := by rw [am_ts_hi (by omega)]; exact t2
  have c2 : (am_ts T' (N + 2)) = (20, nc) := by rw [am_ts_hi (by omega)]; exact t3
  have c3 : (am_ts T' (N + 3)) = (20, nc) := by rw [am_ts_hi (by omega)]; exact t4
  have c4 : (am_ts T' (N + 4)) = (20, nc * 5) := by rw [am_ts_hi (by omega)]; exact t5
  have x5 : nI nc * 5 = nI (nc * 5) := by rw [show (5 : Int32) = nI 5 from rfl, nb_mul]
  have k0 : Int32.toNatClampNeg (0 : Int32) = 0 := rfl
  have b17 : (am_ts T' 17) = (20, 400) := rfl
  have b18 : (am_ts T' 18) = (20, 12) := rfl
  have b19 : (am_ts T' 19) = (20, 12) := rfl
  have b20 : (am_ts T' 20) = (20, 60) := rfl
  rw [k0, J16, e1, nI_clamp (by omega : s < 2 ^ 31), b17, b18, b19, b20]
  refine ⟨tN, N + 1, by rw [am_rs_hi hN]; exact a2, ⟨rfl, by rw [c1], by decide, by decide, nI_pos (by omega), by omega, by rw [c1]; show 0 + s ≤ s; omega⟩, am_ci J 17 (N + 1) 0 0 s, rfl, ?_⟩
  obtain ⟨J1, eJ1⟩ : ∃ J1, J1 = am_ci J 17 (N + 1) 0 0 s := ⟨_, rfl⟩
  rw [← eJ1]
  have o1 : ∀ b, b ≠ N + 1 → J1 b = J b := fun b hb => by rw [eJ1]; exact ci_o hb
  have y1 : J1 16 2 = nI nc := by rw [o1 16 (by omega), J16]; exact e2
  rw [y1, nI_clamp (by omega : nc < 2 ^ 31)]
  refine ⟨tN, N + 2, by rw [am_rs_hi hN]; exact a3, ⟨rfl, by rw [c2], by decide, by decide, nI_pos (by omega), by omega, by rw [c2]; show 0 + nc ≤ nc; omega⟩, am_ci J1 18 (N + 2) 0 0 nc, rfl, ?_⟩
  obtain ⟨J2, eJ2⟩ : ∃ J2, J2 = am_ci J1 18 (N + 2) 0 0 nc := ⟨_, rfl⟩
  rw [← eJ2]
  have o2 : ∀ b, b ≠ N + 2 → J2 b = J1 b := fun b hb => by rw [eJ2]; exact ci_o hb
  have y2 : J2 16 2 = nI nc := by rw [o2 16 (by omega)]; exact y1
  rw [y2, nI_clamp (by omega : nc < 2 ^ 31)]
  refine ⟨tN, N + 3, by rw [am_rs_hi hN]; exact a4, ⟨rfl, by rw [c3], by decide, by decide, nI_pos (by omega), by omega, by rw [c3]; show 0 + nc ≤ nc; omega⟩, am_ci J2 19 (N + 3) 0 0 nc, rfl, ?_⟩
  obtain ⟨J3, eJ3⟩ : ∃ J3, J3 = am_ci J2 19 (N + 3) 0 0 nc := ⟨_, rfl⟩
  rw [← eJ3]
  have o3 : ∀ b, b ≠ N + 3 → J3 b = J2 b := fun b hb => by rw [eJ3]; exact ci_o hb
  have y3 : J3 16 2 = nI nc := by rw [o3 16 (by omega)]; exact y2
  rw [y3, x5, nI_clamp (by omega : nc * 5 < 2 ^ 31)]
  refine ⟨tN, N + 4, by rw [am_rs_hi hN]; exact a5, ⟨rfl, by rw [c4], by decide, by decide, nI_pos (by omega), by omega, by rw [c4]; show 0 + nc * 5 ≤ nc * 5; omega⟩, am_ci J3 20 (N + 4) 0 0 (nc * 5), rfl, tN, tN, ?_⟩
  obtain ⟨J4, eJ4⟩ : ∃ J4, J4 = am_ci J3 20 (N + 4) 0 0 (nc * 5) := ⟨_, rfl⟩
  rw [← eJ4]
  have o4 : ∀ b, b ≠ N + 4 → J4 b = J3 b := fun b hb => by rw [eJ4]; exact ci_o hb
  have y41 : J4 16 1 = nI s := by rw [o4 16 (by omega), o3 16 (by omega), o2 16 (by omega), o1 16 (by omega), J16]; exact e1
  have y42 : J4 16 2 = nI nc := by rw [o4 16 (by omega)]; exact y3
  have lo : ∀ b, b < N → J4 b = G b := fun b hb => by
    rw [o4 b (by omega), o3 b (by omega), o2 b (by omega), o1 b (by omega), j1 b (Or.inl (by omega))]
    funext j
    exact z_o (by omega)
  refine hK T' r' _ L' ⟨fun b hb => ⟨?_, fun j => ?_, ?_, ?_⟩, ?_, t2, t3, t5, a2, a3, a5, ?_, ?_, fun k hk => ?_, fun k hk => ?_, fun k hk => ?_⟩
  · rw [t1 b (Or.inl (by omega)), tn_o (by omega)]
  · rw [a1 b j (by omega) (Or.inl (by omega)), z_o (by omega)]
  · rw [uu_h (by omega), uu_h (by omega)]; exact lo b hb
  · rw [l1 b (Or.inl (by omega))]
    funext j
    exact z_o (by omega)
  · rw [t1 N (Or.inl (by omega)), tn_e rfl]
  · rw [uu_n (by decide), uu_e]; exact y41
  · rw [uu_e, uu_c (by omega)]; exact y42
  · rw [uu_c (by omega), uu_c (by omega), o4 _ (by omega), o3 _ (by omega), o2 _ (by omega), eJ1, ci_e hk, j1 17 (Or.inl (by omega))]
    exact z_o (by omega)
  · rw [uu_c (by omega), uu_c (by omega), o4 _ (by omega), o3 _ (by omega), eJ2, ci_e hk, o1 18 (by omega), j1 18 (Or.inl (by omega))]
    exact z_o (by omega)
  · rw [uu_c (by omega), uu_c (by omega), eJ4, ci_e hk, o3 20 (by omega), o2 20 (by omega), o1 20 (by omega), j1 20 (Or.inl (by omega))]
    exact z_o (by omega)
