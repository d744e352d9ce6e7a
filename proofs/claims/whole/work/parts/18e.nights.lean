/-! nights, by the reference -/
theorem q237 {J : am_I} {k : Nat} {K : Int32 → Prop} (hk : k ≤ 4) (hK : K (J 68 (5 + k))) : w_237 (nI k) J K := by
  unfold w_237
  obtain ⟨g, c⟩ := ixa (a := 5) (n := k) (by omega)
  refine ⟨g, ?_⟩
  rw [show Int32.toNatClampNeg (5 + nI k) = 5 + k from c]
  exact hK
theorem ng1_5 {R : Nat → Int32} {m p d : Nat} : ng1 R m p d 5 = R 5 := by
  unfold ng1
  split
  · exact upR_n (by omega)
  · rfl
def NM (I J : am_I) (L0 L : am_J) (R : Nat → Int32) (s : Nat) : Prop := (∀ c, c ≠ 68 → J c = I c) ∧ J 68 = R ∧ (∀ c, c ≠ 66 → L c = L0 c) ∧ L 66 58 = lN s
theorem l299 {I : am_I} {L0 : am_J} {m n w v o s H nn h0 : Nat} {a b : Nat → Nat} {v3 : Int32} {E : Int32 → Int32 → am_I → am_J → Prop} (hB : NB I m n w v o a b) (hs : s ≤ 1000000) (hnn : nn ≤ 100) (h9 : h0 ≤ 9999) (e5 : I 68 5 = nI h0) (hH : H = min nn (9999 - h0)) (hN0 : PN (I 68) (I 68) m) (hE : ∀ J L u, NM I J L0 L (nR (I 68) m n s H) (nS s H) → E (nI (nC (I 68) s H)) u J L) : ∀ q i J L, i + q = H → NM I J L0 L (nR (I 68) m n s i) (nS s i) → lw_299_86 (q + 1) (nI nn) v3 (nI (nC (I 68) s i)) (nI i) J L E
  | 0, i, J, L, h, hJ => by
    have hj : i = H := by omega
    subst hj
    unfold lw_299_86
    by_cases c : nn ≤ i
    · rw [if_pos (nI_le c (by omega))]
      exact hE J L _ hJ
    · rw [if_neg (nI_ge (by omega) (by omega))]
      refine q237 (k := 0) (by decide) ?_
      have r5 : J 68 (5 + 0) = nI (h0 + i) := by
        rw [hJ.2.1]
        exact nR_5 e5 i
      rw [r5]
      refine am_ifp (show (9999 : Int32) ≤ nI (h0 + i) from nI_le (a := 9999) (by omega) (by omega)) ?_
      exact hE J L _ hJ
  | q + 1, i, J, L, h, hJ => by
    have ih := l299 (v3 := v3) hB hs hnn h9 e5 hH hN0 hE q (i + 1)
    have hB' := hB
    obtain ⟨hm, m0, hn, n0, hw, ho, e1, d1, d3, o1, e2, d2, o2, hp, hdr, hdc⟩ := hB'
    have hdr2 : ∀ d, d < n → ∃ y z, y < 10 ∧ z < 10 ∧ I 68 (58 + 3 * d) = nI y ∧ I 68 (59 + 3 * d) = nI z := fun d hd => by
      obtain ⟨_, ha, hb, _, da, db⟩ := hdr d hd
      exact ⟨a d, b d, ha, hb, da, db⟩
    have hN := PN_n (s := s) hm m0 n0 hdr2 hN0 i
    have sl := nS_le hs i
    obtain ⟨k1, k2, k3, k4⟩ := hJ
    have eR : nR (I 68) m n s (i + 1) = upR (ng2 (ng1 (nR (I 68) m n s i) m (drw (nS s i) % m) (drw (drw (nS s i)) % n)) m (drw (drw (drw (nS s i))) % 10)) 5 (nR (I 68) m n s i 5 + 1) := rfl
    have eC : nC (I 68) s (i + 1) = nC (I 68) s i + (if nI (drw (drw (drw (nS s i))) % 10) < I 68 7 then 1 else 0) := rfl
    have eS : nS s (i + 1) = drw (drw (drw (nS s i))) := rfl
    have l1 := drw_lt (nS s i)
    have l2 := drw_lt (drw (nS s i))
    have hpm : drw (nS s i) % m < m := Nat.mod_lt _ m0
    have hdn : drw (drw (nS s i)) % n < n := Nat.mod_lt _ n0
    have r5' := nR_5 (m := m) (n := n) (s := s) e5 i
    unfold lw_299_86
    rw [if_neg (nI_ge (by omega) (by omega))]
    refine q237 (k := 0) (by decide) ?_
    refine am_ifn (show ¬ (9999 : Int32) ≤ J 68 (5 + 0) by rw [show J 68 (5 + 0) = nI (h0 + i) by rw [k2]; exact r5']; exact nI_ge (b := 9999) (by omega) (by decide)) ?_
    rw [show J 68 1 = nI m by rw [k2, hN.1 1 (by decide) (by decide) (by omega)]; exact e2, show J 68 0 = nI n by rw [k2, hN.1 0 (by decide) (by decide) (by omega)]; exact d2]
    refine q300 m0 (by omega) sl k4 ?_
    refine q300 n0 (by omega) (by omega) uu_e ?_
    have hN1 : PN (I 68) (ng1 (nR (I 68) m n s i) m (drw (nS s i) % m) (drw (drw (nS s i)) % n)) m := PN_1 hm hpm hdn hdr2 hN
    have i7 : (ng1 (nR (I 68) m n s i) m (drw (nS s i) % m) (drw (drw (nS s i)) % n)) 7 = I 68 7 := hN1.1 7 (by decide) (by decide) (by omega)
    have i5 : (ng1 (nR (I 68) m n s i) m (drw (nS s i) % m) (drw (drw (nS s i)) % n)) 5 = nR (I 68) m n s i 5 := ng1_5
    have i1 : (ng1 (nR (I 68) m n s i) m (drw (nS s i) % m) (drw (drw (nS s i)) % n)) 1 = nI m := by
      rw [hN1.1 1 (by decide) (by decide) (by omega)]
      exact e2
    generalize hR1 : ng1 (nR (I 68) m n s i) m (drw (nS s i) % m) (drw (drw (nS s i)) % n) = R1 at eR hN1 i7 i5 i1
    rw [eC, eS] at ih
    have tl : drw (drw (drw (nS s i))) % 10 < 10 := Nat.mod_lt _ (by decide)
    have tail : ∀ J1 : am_I, (∀ c, c ≠ 68 → J1 c = I c) → J1 68 = R1 → w_300 10 (am_u (am_u L 66 58 (lN (drw (nS s i)))) 66 58 (lN (drw (drw (nS s i))))) (fun q12 L13 => w_237 2 J1 (fun q14 => if q14 ≤ q12 then lw_299_86 (q + 1) (nI nn) v3 (nI (nC (I 68) s i)) (nI i + 1) (am_u J1 68 5 (J1 68 5 + 1)) L13 E else w_262 J1 (fun q15 I16 => lw_299_86 (q + 1) (nI nn) v3 (nI (nC (I 68) s i) + 1) (nI i + 1) (am_u I16 68 5 (I16 68 5 + 1)) L13 E))) := by
      intro J1 j1 j2
      refine q300 (m := 10) (by decide) (by decide) (by omega) uu_e ?_
      refine q237 (k := 2) (by decide) ?_
      rw [show J1 68 (5 + 2) = nI o by rw [j2]; exact i7.trans o2, ← nI_succ, ← nI_succ]
      have nm : ∀ J2 : am_I, (∀ c, c ≠ 68 → J2 c = I c) → J2 68 = nR (I 68) m n s (i + 1) → NM I J2 L0 (am_u (am_u (am_u L 66 58 (lN (drw (nS s i)))) 66 58 (lN (drw (drw (nS s i))))) 66 58 (lN (drw (drw (drw (nS s i)))))) (nR (I 68) m n s (i + 1)) (drw (drw (drw (nS s i)))) := fun J2 g1 g2 => ⟨g1, g2, fun c hc => by rw [uu_h hc, uu_h hc, uu_h hc]; exact k3 c hc, uu_e⟩
      rw [o2] at ih
      unfold ng2 at eR
      rw [i7, o2] at eR
      generalize drw (drw (drw (nS s i))) % 10 = t at tl ih eR ⊢
      by_cases c : o ≤ t
      · rw [if_neg (nI_nlt c (by omega)), Nat.add_zero] at ih
        rw [if_neg (nI_nlt c (by omega))] at eR
        refine am_ifp (nI_le c (by omega)) ?_
        refine ih _ _ (by omega) (nm _ (fun c hc => by rw [uu_h hc]; exact j1 c hc) ?_)
        rw [upR_u, j2, i5, eR]
      · rw [if_pos (nI_lt (by omega) (by omega))] at ih
        rw [if_pos (nI_lt (by omega) (by omega))] at eR
        refine am_ifn (nI_ge (by omega) (by omega)) ?_
        obtain ⟨e, he, ee⟩ := hN1.2.2
        refine q262 (n := nin R1 m) he hm (by rw [j2]; exact i1) (by rw [j2]; exact ee) (by rw [j2]; rfl) ?_
        refine ih _ _ (by omega) (nm _ (fun c hc => by rw [uu_h hc, uu_h hc]; exact j1 c hc) ?_)
        rw [upR_u, upR_u, j2, eR, upR_n (by decide), i5, ee, nI_clamp (by omega)]
    generalize drw (nS s i) % m = p at hpm hR1 ⊢
    generalize drw (drw (nS s i)) % n = d at hdn hR1 ⊢
    obtain ⟨x, hx, ex⟩ := hN.2.1 p hpm
    obtain ⟨dw, ha, hb, hab, da, db⟩ := hdr d hdn
    have r58 : nR (I 68) m n s i (58 + 3 * d) = nI (a d) := by rw [hN.1 _ (by omega) (by omega) (by omega)]; exact da
    have r59 : nR (I 68) m n s i (59 + 3 * d) = nI (b d) := by rw [hN.1 _ (by omega) (by omega) (by omega)]; exact db
    have eg : ngo (nR (I 68) m n s i) m p d = ((decide (a d = x) || decide (b d = x)) && opb (decide (¬ nR (I 68) m n s i (60 + 3 * d) = 0)) (fun q => nR (I 68) m n s i (10 + q)) (fun q => nR (I 68) m n s i (18 + q)) (fun q => nR (I 68) m n s i (42 + q)) m p d) := by
      unfold ngo
      rw [r58, r59, ex, nI_clamp (by omega), nI_clamp (by omega), nI_clamp (by omega)]
    refine q253 (m := m) (n := n) (x := x) (y := a d) (z := b d) hm hpm hn hdn (by rw [k2, hN.1 1 (by decide) (by decide) (by omega)]; exact e2) hx ha hb (by rw [k2]; exact ex) (by rw [k2]; exact r58) (by rw [k2]; exact r59) ?_
    have eg' : ((decide (a d = x) || decide (b d = x)) && opb (decide (¬ J 68 (60 + 3 * d) = 0)) (fun q => J 68 (10 + q)) (fun q => J 68 (18 + q)) (fun q => J 68 (42 + q)) m p d) = ngo (nR (I 68) m n s i) m p d := by
      rw [k2]
      exact eg.symm
    rw [eg']
    unfold ng1 at hR1
    cases hg : ngo (nR (I 68) m n s i) m p d with
    | false =>
      rw [hg, if_neg (by decide)] at hR1
      have tj := tail J k1 (k2.trans hR1)
      refine am_ifp rfl ?_
      exact tj
    | true =>
      rw [hg] at hR1
      rw [if_pos rfl, r58, r59, ex, nI_clamp (by omega), nI_clamp (by omega)] at hR1
      refine am_ifn (by decide) ?_
      obtain ⟨g10, c10⟩ := ixa (a := 10) (n := p) (by omega)
      have c10 : Int32.toNatClampNeg (10 + nI p) = 10 + p := c10
      refine ⟨g10, ?_⟩
      rw [c10, show J 68 (10 + p) = nI x by rw [k2]; exact ex]
      refine q257 (x := x) (y := a d) (z := b d) (by omega) hx ha (by rw [k2]; exact r58) (by rw [k2]; exact r59) ?_
      refine ⟨by rw [← c10]; exact g10, ?_⟩
      refine tail _ (fun c hc => by rw [uu_h hc]; exact k1 c hc) ?_
      rw [upR_u, k2]
      exact hR1
theorem l299b {I : am_I} {L : am_J} {m : Nat} {R : Nat → Int32} {x y : Int32} {E : Int32 → am_I → Prop} (hm : m ≤ 8) (em : I 66 61 = nI m) (hR : I 68 = R) (hE : ∀ J u, (∀ c, c ≠ 98 → J c = I c) → (∀ k, k < m → J 98 k = R (10 + k)) → E u J) : ∀ q j J, j + q = m → (∀ c, c ≠ 98 → J c = I c) → (∀ k, k < j → J 98 k = R (10 + k)) → lw_299_215 (q + 1) x y (nI j) J L E
  | 0, j, J, h, h1, h2 => by
    have hj : j = m := by omega
    subst hj
    unfold lw_299_215
    rw [h1 66 (by decide), em, if_pos (nI_le (Nat.le_refl _) (by omega))]
    exact hE J _ h1 h2
  | q + 1, j, J, h, h1, h2 => by
    unfold lw_299_215
    rw [h1 66 (by decide), em, if_neg (nI_ge (by omega) (by omega))]
    obtain ⟨g10, c10⟩ := ixa (a := 10) (n := j) (by omega)
    have c10 : Int32.toNatClampNeg (10 + nI j) = 10 + j := c10
    refine ⟨g10, nb_gd (by omega) (by decide), ?_⟩
    rw [c10, nI_clamp (by omega : j < 2 ^ 31), ← nI_succ, h1 68 (by decide), hR]
    refine l299b hm em hR hE q (j + 1) _ (by omega) (fun c hc => by rw [uu_h hc]; exact h1 c hc) (fun k hk => ?_)
    by_cases e : k = j
    · rw [e, uu_e]
    · rw [uu_n e]
      exact h2 k (by omega)
def FrL (D : am_P) : Prop := ∀ N T r I L L', D N T r I L → D N T r I L'
theorem UNr_71 {u1 u2 : Int32} {c30 c31 c32 c33 c34 c71 c72 R d71 : Nat → Int32} (h : UNr u1 u2 c30 c31 c32 c33 c34 c71 c72 R) (e : ∀ k, k < 336 → d71 k = c71 k) : UNr u1 u2 c30 c31 c32 c33 c34 d71 c72 R := by
  obtain ⟨u, m, hu, hm, a1, a2, a3, a4⟩ := h
  refine ⟨u, m, hu, hm, a1, a2, a3, fun j hj => ?_⟩
  obtain ⟨b1, b2, b3⟩ := a4 j hj
  refine ⟨b1, b2, fun i hi => ?_⟩
  rw [e _ (by omega), b3 i hi]
  refine ust_cg (fun i hi => ?_) hi
  by_cases c : j + 1 = u
  · rw [if_pos c, if_pos c]
  · rw [if_neg c, if_neg c, e _ (by omega)]
theorem inv_ngt {D : am_P} (hD : FrD D) (hL : FrL D) {N : Nat} {T : Nat → Nat × Nat} {r : Nat → Nat → Option Nat} {I J : am_I} {L L' : am_J} (h : Inv D N T r I L) (j0 : ∀ c, c ≠ 0 → c ≠ 63 → c ≠ 64 → c ≠ 66 → c ≠ 71 → c ≠ 98 → J c = I c) (j1 : ∀ k, k ≠ 10 → k ≠ 12 → J 0 k = I 0 k) (j2 : J 0 10 = 0) (j3 : J 0 12 = 0) (j4 : ∀ k, k < 336 → J 71 k = I 71 k) (j5 : ∀ k, k ≠ 0 → k ≠ 1 → k ≠ 60 → k ≠ 61 → J 66 k = I 66 k) (j6 : J 66 1 = 0) (j7 : NTr (J 63 0) (J 63 1) (J 66 60) (J 66 61) (J 64) (J 98)) (jL : ∀ c, c ≠ 66 → L' c = L c) : Inv D N T r J L' := by
  obtain ⟨⟨h1, h2, h3, h4, h5, h6, h7, h8, h9, f1, f2, f3, f4, f5⟩, hdd⟩ := h
  have q : ∀ c, c ≠ 0 → c ≠ 63 → c ≠ 64 → c ≠ 66 → c ≠ 71 → c ≠ 98 → J c = I c := j0
  have J1 : J 1 = I 1 := by apply q <;> decide
  have J2 : J 2 = I 2 := by apply q <;> decide
  have J3 : J 3 = I 3 := by apply q <;> decide
  have J4 : J 4 = I 4 := by apply q <;> decide
  have J5 : J 5 = I 5 := by apply q <;> decide
  have J6 : J 6 = I 6 := by apply q <;> decide
  have J7 : J 7 = I 7 := by apply q <;> decide
  have J8 : J 8 = I 8 := by apply q <;> decide
  have J9 : J 9 = I 9 := by apply q <;> decide
  have J10 : J 10 = I 10 := by apply q <;> decide
  have J12 : J 12 = I 12 := by apply q <;> decide
  have J14 : J 14 = I 14 := by apply q <;> decide
  have J15 : J 15 = I 15 := by apply q <;> decide
  have J29 : J 29 = I 29 := by apply q <;> decide
  have J30 : J 30 = I 30 := by apply q <;> decide
  have J31 : J 31 = I 31 := by apply q <;> decide
  have J32 : J 32 = I 32 := by apply q <;> decide
  have J33 : J 33 = I 33 := by apply q <;> decide
  have J34 : J 34 = I 34 := by apply q <;> decide
  have J35 : J 35 = I 35 := by apply q <;> decide
  have J65 : J 65 = I 65 := by apply q <;> decide
  have J67 : J 67 = I 67 := by apply q <;> decide
  have J68 : J 68 = I 68 := by apply q <;> decide
  have J69 : J 69 = I 69 := by apply q <;> decide
  have J70 : J 70 = I 70 := by apply q <;> decide
  have J72 : J 72 = I 72 := by apply q <;> decide
  have J75 : J 75 = I 75 := by apply q <;> decide
  have J92 : J 92 = I 92 := by apply q <;> decide
  refine ⟨?_, hL _ _ _ _ L _ (hD _ _ _ I _ _ ⟨fun c hc => j0 c (by omega) (by omega) (by omega) (by omega) (by omega) (by omega), by rw [J1], fun i _ => by rw [J68], J69, J70, Or.inl j2⟩ hdd)⟩
  unfold StR
  rw [J1, J2, J3, J4, J5, J6, J7, J8, J9, J10, J12, J14, J15, J29, J30, J31, J32, J33, J34, J35, J65, J67, J68, J72, J75, J92]
  refine ⟨h1, h2, h3, h4, h5, ?_, ?_, j7, MSr_0 h9 j3 j6 (j1 13 (by decide) (by decide)) (j5 11 (by decide) (by decide) (by decide) (by decide)), ?_, ?_, ?_, f4, ?_⟩
  · rw [j5 13 (by decide) (by decide) (by decide) (by decide)]
    exact h6
  · rw [j5 8 (by decide) (by decide) (by decide) (by decide)]
    exact UNr_71 h7 j4
  · rw [j5 18 (by decide) (by decide) (by decide) (by decide)]
    exact f1
  · rw [j5 56 (by decide) (by decide) (by decide) (by decide)]
    exact f2
  · rw [j5 20 (by decide) (by decide) (by decide) (by decide)]
    exact f3
  · obtain ⟨g1, g2, g3⟩ := f5
    exact ⟨(jL 81 (by decide)).trans g1, (jL 82 (by decide)).trans g2, (jL 83 (by decide)).trans g3⟩
