/-! nights, by the class -/
theorem ng_9 {R : Nat → Int32} {m p d : Nat} (hp : p < 8) : ng1 R m p d 9 = R 9 := by
  unfold ng1
  split
  · exact upR_n (by omega)
  · rfl
theorem ng_q {R : Nat → Int32} {m t q : Nat} : ng2 R m t (10 + q) = R (10 + q) := by
  unfold ng2
  split
  · exact upR_n (by omega)
  · rfl
/-- what class and reference have in common, while nights are drawn -/
def NB (I : am_I) (m n w v o : Nat) (a b : Nat → Nat) : Prop := m ≤ 8 ∧ 0 < m ∧ n ≤ 12 ∧ 0 < n ∧ w < 2 ^ n ∧ o ≤ 10 ∧ I 1 10 = nI m ∧ I 1 2 = nI n ∧ I 1 3 = nI w ∧ I 12 2 = nI o ∧ I 68 1 = nI m ∧ I 68 0 = nI n ∧ I 68 7 = nI o ∧ (∀ p, p < m → I 68 (50 + p) = nI (bi v p) ∧ PRp (I 4) (I 5) (I 6) (I 7) (I 8) (I 68) p) ∧ (∀ d, d < n → I 68 (60 + 3 * d) = nI (bi w d) ∧ a d < 10 ∧ b d < 10 ∧ a d ≠ b d ∧ I 68 (58 + 3 * d) = nI (a d) ∧ I 68 (59 + 3 * d) = nI (b d)) ∧ ∀ d, d < n → I 2 d = nI (a d) ∧ I 3 d = nI (b d) ∧ a d < 10 ∧ b d < 10
def NW (I J : am_I) (R : Nat → Int32) (m s : Nat) : Prop := (∀ c, c ≠ 63 → c ≠ 64 → J c = I c) ∧ (∀ k, k ≠ 3 → J 63 k = I 63 k) ∧ J 63 3 = nI s ∧ ∀ q, q < m → J 64 q = R (10 + q)
theorem q170 {T : Nat → Nat × Nat} {r : Nat → Nat → Option Nat} {I J : am_I} {m n w v o s : Nat} {a b : Nat → Nat} {R : Nat → Int32} {K : am_I → Prop} (hB : NB I m n w v o a b) (hs : s ≤ 1000003) (hN : PN (I 68) R m) (hJ : NW I J R m s) (hK : ∀ J', NW I J' (ng1 R m (drw s % m) (drw (drw s) % n)) m (drw (drw s)) → K J') : w_170 T r J K := by
  obtain ⟨hm, m0, hn, n0, hw, ho, e1, d1, d3, o1, e2, d2, o2, hp, hdr, hdc⟩ := hB
  obtain ⟨k1, k2, k3, k4⟩ := hJ
  have K1 : J 1 = I 1 := k1 1 (by decide) (by decide)
  unfold w_170
  rw [K1, e1]
  refine q171 m0 (by omega) hs k3 ?_
  rw [uu_c (by decide), K1, d1]
  have l1 := drw_lt s
  have l2 := drw_lt (drw s)
  refine q171 n0 (by omega) (by omega) uu_e ?_
  generalize hG : am_u (am_u J 63 3 (nI (drw s))) 63 3 (nI (drw (drw s))) = G
  have g0 : ∀ c, c ≠ 63 → G c = J c := fun c hc => by rw [← hG, uu_h hc, uu_h hc]
  have g1 : ∀ c, c ≠ 63 → c ≠ 64 → G c = I c := fun c c1 c2 => (g0 c c1).trans (k1 c c1 c2)
  have g2 : ∀ k, k ≠ 3 → G 63 k = I 63 k := fun k hk => by rw [← hG, uu_n hk, uu_n hk]; exact k2 k hk
  have g3 : G 63 3 = nI (drw (drw s)) := by rw [← hG, uu_e]
  have g4 : ∀ q, q < m → G 64 q = R (10 + q) := fun q hq => by rw [g0 64 (by decide)]; exact k4 q hq
  have hpm : drw s % m < m := Nat.mod_lt _ m0
  have hdn : drw (drw s) % n < n := Nat.mod_lt _ n0
  generalize drw s % m = p at hpm hK ⊢
  generalize drw (drw s) % n = d at hdn hK ⊢
  obtain ⟨x, hx, ex⟩ := hN.2.1 p hpm
  obtain ⟨dw, ha, hb, hab, da, db⟩ := hdr d hdn
  obtain ⟨ca, cb, _, _⟩ := hdc d hdn
  refine q95 (a := 64) (x := x) (y := a d) (z := b d) hm hpm hn hdn (by rw [g1 1 (by decide) (by decide)]; exact e1) rfl (show 8 ≤ 8 from Nat.le_refl 8) hx ha hb ((g4 p hpm).trans ex) (by rw [g1 2 (by decide) (by decide)]; exact ca) (by rw [g1 3 (by decide) (by decide)]; exact cb) ?_
  rw [ngo_eq (c1 := G 1) (c4 := I 4) (c5 := I 5) (c6 := I 6) (c7 := G 7) (c8 := G 8) (R0 := I 68) (R := R) (pl := G 64) (v := v) (x := 0) (y := 0) (z := 0) hm hw hn hdn (by rw [g1 1 (by decide) (by decide)]; exact d3) dw (by rw [g1 7 (by decide) (by decide), g1 8 (by decide) (by decide)]; exact hp) hpm hN g4]
  have r58 : R (58 + 3 * d) = nI (a d) := by rw [hN.1 _ (by omega) (by omega) (by omega)]; exact da
  have r59 : R (59 + 3 * d) = nI (b d) := by rw [hN.1 _ (by omega) (by omega) (by omega)]; exact db
  have eg : ngo R m p d = ((decide (a d = x) || decide (b d = x)) && opb (decide (¬ R (60 + 3 * d) = 0)) (fun q => R (10 + q)) (fun q => R (18 + q)) (fun q => R (42 + q)) m p d) := by
    unfold ngo
    rw [r58, r59, ex, nI_clamp (by omega), nI_clamp (by omega), nI_clamp (by omega)]
  rcases bey_b1 (opb (decide (¬ R (60 + 3 * d) = 0)) (fun q => R (10 + q)) (fun q => R (18 + q)) (fun q => R (42 + q)) m p d) x (a d) (b d) ha hb with ⟨q1, q2⟩ | ⟨q1, q2, w0, hw0, q3⟩
  · refine am_ifp q2 (hK G ?_)
    have f : ngo R m p d = false := by
      rw [eg]
      exact b1_z.mp q1
    unfold ng1
    rw [f]
    exact ⟨g1, g2, g3, g4⟩
  · refine am_ifn (by rw [q3]; exact nb_m1 (by omega)) ⟨nb_gd (by omega) (by decide), ?_⟩
    rw [nI_clamp (by omega : p < 2 ^ 31)]
    refine hK _ ?_
    have f : ngo R m p d = true := by
      rw [eg]
      cases hb : ((decide (a d = x) || decide (b d = x)) && opb (decide (¬ R (60 + 3 * d) = 0)) (fun q => R (10 + q)) (fun q => R (18 + q)) (fun q => R (42 + q)) m p d)
      · rw [hb] at q1
        exact absurd q1 (by decide)
      · rfl
    unfold ng1
    rw [if_pos f]
    refine ⟨fun c c1 c2 => by rw [uu_h c2]; exact g1 c c1 c2, fun k hk => by rw [uu_c (by decide)]; exact g2 k hk, by rw [uu_c (by decide)]; exact g3, fun q hq => ?_⟩
    by_cases e : q = p
    · rw [e, uu_e, upR_e, q2, r58, r59, ex, nI_clamp (by omega), nI_clamp (by omega)]
    · rw [uu_n e, upR_n (by omega)]
      exact g4 q hq
theorem l169 {T : Nat → Nat × Nat} {r : Nat → Nat → Option Nat} {I : am_I} {m n w v o s H : Nat} {a b : Nat → Nat} {E : Int32 → Int32 → Int32 → am_I → Prop} (hB : NB I m n w v o a b) (hs : s ≤ 1000000) (hH : H ≤ 100) (hN0 : PN (I 68) (I 68) m) (hE : ∀ J u, NW I J (nR (I 68) m n s H) m (nS s H) → E (nR (I 68) m n s H 9) (nI (nC (I 68) s H)) u J) : ∀ q i J, i + q = H → NW I J (nR (I 68) m n s i) m (nS s i) → lw_169_56 (q + 1) (nR (I 68) m n s i 9) (nI (nC (I 68) s i)) (nI H) (nI i) T r J E
  | 0, i, J, h, hJ => by
    have hj : i = H := by omega
    subst hj
    unfold lw_169_56
    rw [if_pos (nI_le (Nat.le_refl _) (by omega))]
    exact hE J _ hJ
  | q + 1, i, J, h, hJ => by
    have ih := l169 (T := T) (r := r) hB hs hH hN0 hE q (i + 1)
    have hB' := hB
    obtain ⟨hm, m0, hn, n0, hw, ho, e1, d1, d3, o1, e2, d2, o2, hp, hdr, hdc⟩ := hB'
    have hdr2 : ∀ d, d < n → ∃ y z, y < 10 ∧ z < 10 ∧ I 68 (58 + 3 * d) = nI y ∧ I 68 (59 + 3 * d) = nI z := fun d hd => by
      obtain ⟨_, ha, hb, _, da, db⟩ := hdr d hd
      exact ⟨a d, b d, ha, hb, da, db⟩
    have hN := PN_n (s := s) hm m0 n0 hdr2 hN0 i
    have sl := nS_le hs i
    unfold lw_169_56
    rw [if_neg (nI_ge (by omega) (by omega))]
    refine q170 (R := nR (I 68) m n s i) (s := nS s i) hB sl hN hJ (fun G hG => ?_)
    have hN1 : PN (I 68) (ng1 (nR (I 68) m n s i) m (drw (nS s i) % m) (drw (drw (nS s i)) % n)) m := PN_1 hm (Nat.mod_lt _ m0) (Nat.mod_lt _ n0) hdr2 hN
    have pl : drw (nS s i) % m < 8 := Nat.lt_of_lt_of_le (Nat.mod_lt _ m0) hm
    have eR : nR (I 68) m n s (i + 1) = upR (ng2 (ng1 (nR (I 68) m n s i) m (drw (nS s i) % m) (drw (drw (nS s i)) % n)) m (drw (drw (drw (nS s i))) % 10)) 5 (nR (I 68) m n s i 5 + 1) := rfl
    have eC : nC (I 68) s (i + 1) = nC (I 68) s i + (if nI (drw (drw (drw (nS s i))) % 10) < I 68 7 then 1 else 0) := rfl
    have eS : nS s (i + 1) = drw (drw (drw (nS s i))) := rfl
    have e9 : (ng1 (nR (I 68) m n s i) m (drw (nS s i) % m) (drw (drw (nS s i)) % n)) 9 = nR (I 68) m n s i 9 := ng_9 pl
    generalize (ng1 (nR (I 68) m n s i) m (drw (nS s i) % m) (drw (drw (nS s i)) % n)) = R1 at hG hN1 eR e9
    obtain ⟨k1, k2, k3, k4⟩ := hG
    have l2 := drw_lt (drw (nS s i))
    refine q171 (m := 10) (by decide) (by decide) (by omega) k3 ?_
    rw [eC, eS] at ih
    have i7 : R1 7 = I 68 7 := hN1.1 7 (by decide) (by decide) (by omega)
    have nw : NW I (am_u G 63 3 (nI (drw (drw (drw (nS s i)))))) (nR (I 68) m n s (i + 1)) m (drw (drw (drw (nS s i)))) := by
      refine ⟨fun c c1 c2 => by rw [uu_h c1]; exact k1 c c1 c2, fun k hk => by rw [uu_n hk]; exact k2 k hk, uu_e, fun q hq => ?_⟩
      rw [uu_c (by decide), k4 q hq, eR, upR_n (by omega), ng_q]
    have ih2 := ih _ (by omega) nw
    rw [uu_c (by decide), k1 12 (by decide) (by decide), o1]
    have r9 : nR (I 68) m n s (i + 1) 9 = ng2 R1 m (drw (drw (drw (nS s i))) % 10) 9 := by
      rw [eR, upR_n (by decide)]
    rw [r9] at ih2
    unfold ng2 at ih2
    rw [i7, o2] at ih2
    have tl : drw (drw (drw (nS s i))) % 10 < 10 := Nat.mod_lt _ (by decide)
    generalize drw (drw (drw (nS s i))) % 10 = t at tl ih2 ⊢
    by_cases c : o ≤ t
    · rw [if_neg (nI_nlt c (by omega)), if_neg (nI_nlt c (by omega)), Nat.add_zero, e9] at ih2
      refine am_ifp (nI_le c (by omega)) ?_
      rw [← nI_succ]
      exact ih2
    · rw [if_pos (nI_lt (by omega) (by omega)), if_pos (nI_lt (by omega) (by omega)), upR_e, e9] at ih2
      refine am_ifn (nI_ge (by omega) (by omega)) ?_
      refine q86 (a := 64) hm (by rw [uu_c (by decide), k1 1 (by decide) (by decide)]; exact e1) rfl (show 8 ≤ 8 from Nat.le_refl 8) ?_
      obtain ⟨e, he, ee⟩ := hN.2.2
      have en : fb_ct (fun p => decide (¬ am_u G 63 3 (nI (drw (drw (drw (nS s i))))) 64 p = 0)) m = nin R1 m := fb_ct_cong (fun p hp => by
        rw [uu_c (by decide), k4 p hp])
      have nl : nin R1 m ≤ m := fb_ct_le _ _
      rw [en, ee, q101 he (by omega) hm (by rw [uu_c (by decide), k1 1 (by decide) (by decide)]; exact e1), ← nI_succ, ← nI_succ]
      rw [ee, nI_clamp (by omega)] at ih2
      exact ih2
