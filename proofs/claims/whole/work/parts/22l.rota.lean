/-! rota: what is kept, and the reference -/
def RTT : TRI := fun T r I q => OB T r q ∧ Tb I q
def WW (I : am_I) (fx : Option LWX) (m M : Nat) : Nat × Nat × Nat := wy (prc I fx) m M 6 []
def KK (I : am_I) (fx : Option LWX) (m M : Nat) : List Nat := pk (prc I fx) m M 6 []
def PLL : TRI := fun _ _ I q => 99 ≤ q ∧ ∃ fx m M, m ≤ 8 ∧ M < 2 ^ 31 ∧ I 1 10 = nI m ∧ I 12 1 = nI M ∧ LOr (I 68) (I 1 16) fx ∧ I q 1 = nI (WW I fx m M).2.1 ∧ (0 < (WW I fx m M).2.1 → I q 0 = nI (WW I fx m M).1 ∧ ∀ k, k < 6 → I (q + 1) k = nI ((KK I fx m M).getD k 0))
theorem RTT_fr : frRT 10 RTT := by
  intro T r I T' r' I' q q99 e h
  obtain ⟨ob, tb⟩ := h
  have ts : ∀ i, i < 10 → am_ts T' (q + i) = am_ts T (q + i) := fun i hi => by rw [am_ts_hi (by omega), am_ts_hi (by omega), (e (q + i) (by omega) (by omega)).1]
  have t0 : am_ts T' q = am_ts T q := ts 0 (by decide)
  have rs : ∀ j, am_rs r' q j = am_rs r q j := fun j => am_rs_ap ((e q (by omega) (by omega)).2.1 j)
  refine ⟨?_, ?_⟩
  · unfold OB at ob ⊢
    rw [t0, rs, rs, rs, rs, rs, rs, rs, rs, ts 1 (by decide), ts 2 (by decide), ts 3 (by decide), ts 4 (by decide), ts 5 (by decide), ts 6 (by decide), ts 7 (by decide), ts 8 (by decide)]
    exact ob
  · unfold Tb at tb ⊢
    rw [(e (q + 2) (by omega) (by omega)).2.2, (e (q + 3) (by omega) (by omega)).2.2, (e (q + 4) (by omega) (by omega)).2.2, (e (q + 5) (by omega) (by omega)).2.2]
    exact tb
theorem LOr_cg {R R' : Nat → Int32} {x : Int32} {fx : Option LWX} (h : LOr R x fx) (e : ∀ i, 110 ≤ i → R' i = R i) : LOr R' x fx := by
  rcases h with h | ⟨k, X, h1, h2, h3, h4, h5⟩
  · exact Or.inl h
  · exact Or.inr ⟨k, X, h1, h2, h3, h4, LAWr_cg h5 h4 (fun i i1 _ => e i (by omega))⟩
theorem WW_cg {I J : am_I} (fx : Option LWX) (m M : Nat) (h4 : J 4 = I 4) (h5 : J 5 = I 5) (h7 : J 7 = I 7) (h12 : J 12 = I 12) : WW J fx m M = WW I fx m M ∧ KK J fx m M = KK I fx m M := by
  unfold WW KK
  rw [prc_cg fx h4 h5 h7 h12]
  exact ⟨rfl, rfl⟩
theorem PLL_fr : frPL PLL := by
  intro T r I I' q e e15 e68 e10 e16 e4 e5 e7 e12 h
  obtain ⟨q99, fx, m, M, h1, h2, h3, h4, h5, h6, h7⟩ := h
  obtain ⟨w1, w2⟩ := WW_cg fx m M e4 e5 e7 e12
  refine ⟨q99, fx, m, M, h1, h2, e10.trans h3, by rw [e12]; exact h4, by rw [e16]; exact LOr_cg h5 e68, ?_, ?_⟩
  · rw [w1, e q q99]; exact h6
  · rw [w1, w2, e q q99, e (q + 1) (by omega)]; exact h7
def frY (I J : am_I) (L M : am_J) : Prop := (∀ c, c ≠ 66 → c ≠ 88 → c ≠ 89 → c ≠ 90 → c ≠ 91 → c ≠ 92 → J c = I c) ∧ (∀ k, k ≠ 34 → k ≠ 38 → k ≠ 46 → k ≠ 47 → J 66 k = I 66 k) ∧ ∀ c, c ≠ 66 → c ≠ 84 → c ≠ 86 → M c = L c
theorem q272 {m M : Nat} {I : am_I} {L : am_J} {fx : Option LWX} {K : am_I → am_J → Prop} (hm : m ≤ 8) (hM : M < 2 ^ 31) (em : I 68 1 = nI m) (eM : I 68 6 = nI M) (e92 : I 92 0 = 0) (h : ∀ p, p < m → PWd I m p) (hL : LOr (I 68) (I 68 4) fx) (hK : ∀ G N, frY I G L N → G 92 0 = 0 → G 66 46 = nI (WW I fx m M).2.1 → (0 < (WW I fx m M).2.1 → G 66 47 = nI (WW I fx m M).1 ∧ ∀ i, i < 6 → G 90 i = nI ((KK I fx m M).getD i 0)) → K G N) : w_272 I L K := by
  unfold w_272
  refine q273 hm em h hL (fun J N f z9 rt => ?_)
  have b68 : am_u (am_u (am_u J 66 46 0) 66 47 100000000) 89 0 (-1) 68 = I 68 := by
    rw [uu_h (by decide), uu_h (by decide), uu_h (by decide)]
    exact f.1 68 (by decide) (by decide) (by decide)
  have b92 : am_u (am_u (am_u J 66 46 0) 66 47 100000000) 89 0 (-1) 92 = I 92 := by
    rw [uu_h (by decide), uu_h (by decide), uu_h (by decide)]
    exact f.1 92 (by decide) (by decide) (by decide)
  have b88 : am_u (am_u (am_u J 66 46 0) 66 47 100000000) 89 0 (-1) 88 = J 88 := by
    rw [uu_h (by decide), uu_h (by decide), uu_h (by decide)]
  have hE : ∃ u1, ∀ u, u1 ≤ u → ∀ G w, w = nI ([] : List Nat).length + (-1) → EH (am_u (am_u (am_u J 66 46 0) 66 47 100000000) 89 0 (-1)) G m [] (vis (prc I fx) m M (5 + 1) [] (cst (prc I fx) []) (0, 100000000, [])) → lw_272_25 u w G N (fun _ I8 => K I8 N) := by
    refine ⟨1, fun u hu G w hw eh => ?_⟩
    obtain ⟨v, rfl⟩ : ∃ v, u = v + 1 := ⟨u - 1, by omega⟩
    unfold lw_272_25
    rw [if_pos (m1_lt w hw)]
    obtain ⟨g1, _, _, g4, _, g6, g7, _, g9⟩ := eh
    have gw : gz (1000 * 6) (WW I fx m M) := wy_gz prc_le 6 [] (Nat.le_refl _)
    have ev : vis (prc I fx) m M (5 + 1) [] (cst (prc I fx) []) (0, 100000000, []) = (0 + (WW I fx m M).2.1, if 0 < (WW I fx m M).2.1 ∧ 0 + (WW I fx m M).1 < 100000000 then (0 + (WW I fx m M).1, KK I fx m M) else (100000000, [])) := rfl
    rw [ev] at g6 g7 g9
    rw [Nat.zero_add, Nat.zero_add] at *
    refine hK G N ⟨fun c c1 c2 c3 c4 c5 c6 => ?_, fun k k1 k2 k3 k4 => ?_, f.2.2.1⟩ g4 g6 (fun hz => ?_)
    · rw [g1.1 c c1 c3 c4 c5 c6, uu_h c3, uu_h c1, uu_h c1]; exact f.1 c c1 c2 c5
    · rw [g1.2 k k3 k4, uu_c (by decide), uu_n k4, uu_n k3]; exact f.2.1 k k1 k2
    · have hc : (WW I fx m M).1 < 100000000 := by
        rcases gw with ⟨a, _⟩ | ⟨_, a⟩ <;> omega
      rw [if_pos ⟨hz, hc⟩] at g7 g9
      exact ⟨g7, g9 hc⟩
  obtain ⟨u0, hu⟩ := srch (I := am_u (am_u (am_u J 66 46 0) 66 47 100000000) 89 0 (-1)) (L := N) (E := fun _ I8 => K I8 N) (P := prc I fx) (m := m) (M := M) hm hM (by rw [b68]; exact em) (by rw [b68]; exact eM) (RTs_cg rt b88) prc_le 5 [] (0, 100000000, []) rfl (fun p hp => absurd hp List.not_mem_nil) trivial hE m 0 (by omega)
  refine ⟨u0, hu u0 (Nat.le_refl _) false _ ?_⟩
  rw [vij_0]
  refine ⟨⟨fun _ _ _ _ _ _ => rfl, fun _ _ _ => rfl⟩, fun i hi => absurd hi (by simp), fun i hi => absurd hi (by simp), ?_, ?_, fun k => absurd k (by decide), fun p hp => ?_, ?_, ?_, ?_, fun k => absurd k (by decide)⟩
  · show am_u _ 89 0 (-1) 89 0 = _
    rw [uu_e]; decide
  · rw [b92]; exact e92
  · rw [uu_c (by decide), uu_c (by decide), uu_c (by decide), z9 p hp, if_neg (fun q => absurd q.1 (by decide))]
    rfl
  · rw [uu_c (by decide), uu_n (by decide), uu_e]; rfl
  · rw [uu_c (by decide), uu_e]; rfl
  · exact Nat.le_refl _
theorem inv_scr3 {D : am_P} (hD : FrD D) (hL : FrL D) {N : Nat} {T : Nat → Nat × Nat} {r : Nat → Nat → Option Nat} {I J : am_I} {L L' : am_J} (h : Inv D N T r I L) (k : ∀ c, (c ≤ 12 ∨ c = 14 ∨ c = 15 ∨ (29 ≤ c ∧ c ≤ 35) ∨ (63 ≤ c ∧ c ≤ 65) ∨ (67 ≤ c ∧ c ≤ 72) ∨ c = 75 ∨ 98 ≤ c) → J c = I c) (k92 : J 92 0 = 0) (k66 : ∀ i, (i = 1 ∨ i = 8 ∨ i = 11 ∨ i = 13 ∨ i = 18 ∨ i = 20 ∨ i = 56 ∨ i = 60 ∨ i = 61) → J 66 i = I 66 i) (kL : ∀ c, (c = 81 ∨ c = 82 ∨ c = 83) → L' c = L c) : Inv D N T r J L' := by
  have h' : Inv D N T r (fun c => if c = 92 then I 92 else J c) L' := inv_scr2 hD hL h (fun c hc => by
    show (if c = 92 then I 92 else J c) = I c
    by_cases z : c = 92
    · subst z; rw [if_pos rfl]
    · rw [if_neg z]; exact k c (by omega)) (fun i hi => k66 i hi) kL
  obtain ⟨⟨h1, h2, h3, h4, h5, h6, h7, h8, h9, f1, f2, f3, f4, f5⟩, hdd⟩ := h'
  refine ⟨⟨h1, h2, h3, h4, h5, h6, h7, h8, h9, f1, f2, f3, k92, f5⟩, hD N T r (fun c => if c = 92 then I 92 else J c) J L' ⟨fun c hc => ?_, rfl, fun _ _ => rfl, rfl, rfl, Or.inr ⟨rfl, rfl, rfl, rfl, rfl, rfl, rfl⟩⟩ hdd⟩
  show J c = if c = 92 then I 92 else J c
  rw [if_neg (by omega)]
