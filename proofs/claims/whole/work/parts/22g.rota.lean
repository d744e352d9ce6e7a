/-! rota: the class's row, and all of its plan -/
theorem getD_s (a : Nat) (l : List Nat) (k : Nat) : (a :: l).getD (k + 1) 0 = l.getD k 0 := by
  simp [List.getD]
def HD (m : Nat) (v4 : Int32) (h : List Nat) (i : Nat) : Prop := (v4 = -1 ∧ 5 ≤ i) ∨ ∃ x, x < 495 ∧ v4 = nI x ∧ HS x h ∧ ht x < m
theorem l143 {T : Nat → Nat × Nat} {r : Nat → Nat → Option Nat} {q : Nat} {I : am_I} {P : PRI} {m M : Nat} {v2 v3 : Int32} {R : List Nat} {E : Int32 → Int32 → Int32 → Int32 → am_I → Prop} (q99 : 99 ≤ q) (ob : OB T r q) (hm : m ≤ 8) (m0 : 0 < m) (hM : M < 2 ^ 31) (hP : ∀ p w b c, P p w b = some c → c ≤ 1000) (cx : Cx P m M I q)
    (hE : ∀ a b c d J, frO q I J → (∀ k, k < 6 → J (q + 1) k = nI (R.getD k 0)) → E a b c d J) : ∀ n i h v4 v6 J, i + n = 6 → h.length = i → (∀ p ∈ h, p < 8) → (∀ p, p < 8 → (nI p = v6 ↔ h.head? = some p)) → HD m v4 h i → frO q I J → EA P m M J q 0 → (∀ k, k < i → J (q + 1) k = nI (R.getD k 0)) → (∀ k, R.getD (i + k) 0 = (pk P m M n h).getD k 0) → lw_143_22 (n + 1) q v2 v3 v4 (nI (shr h)) v6 (nI i) T r J E
  | 0, i, h, v4, v6, J, hn, _, _, _, _, f, _, hr, _ => by
    have e : i = 6 := by omega
    subst e
    unfold lw_143_22
    rw [if_pos (by decide)]
    exact hE _ _ _ _ J f hr
  | n + 1, i, h, v4, v6, J, hn, hl, hp, hd, hh, f, ea, hr, hR => by
    have ih := fun h' v4' v6' G => l143 (T := T) (r := r) (v2 := v2) (v3 := v3) q99 ob hm m0 hM hP cx hE n (i + 1) h' v4' v6' G (by omega)
    rw [nI_succ i] at ih
    have cj := Cx_O q99 cx f
    have ob' := ob
    obtain ⟨k9, o2, -, -, -, -, -, -, -, t1, -, -, -, -, -, -, -⟩ := ob'
    unfold lw_143_22
    rw [if_neg (show ¬ (6 : Int32) ≤ nI i from nI_ge (b := 6) (by omega) (by decide))]
    refine ⟨k9, ?_⟩
    refine q142 (n := n) q99 ob hm cj.1 cj.2.1 hM hP cj.2.2.1 hp (by omega) hd ?_ (fun G hG => ?_)
    · rcases hh with ⟨a, b⟩ | ⟨x, a, b, c, d⟩
      · exact Or.inl ⟨a, by omega⟩
      · refine Or.inr ⟨x, a, b, ?_, ?_⟩
        · rw [(cj.2.2.2.2 x a).1, c.1]
        · have k := ea x (by omega) a d h c hp
          rw [show n = 5 - st x by rw [c.1]; omega]
          exact k
    · obtain ⟨g, g0, g1, g10⟩ := hG
      have pm : (wy P m M (n + 1) h).2.2 < m := fd_pick m m0
      have hpk : pk P m M (n + 1) h = (wy P m M (n + 1) h).2.2 :: pk P m M n ((wy P m M (n + 1) h).2.2 :: h) := rfl
      rw [hpk] at hR
      generalize (wy P m M (n + 1) h).2.2 = p at g10 pm hR
      have gi : ¬ (nI i < 0 ∨ (am_ts T (q + 1)).2 ≤ Int32.toNatClampNeg (nI i)) := by
        rw [t1]
        exact nb_gd (show i < 6 by omega) (by decide)
      refine ⟨k9, k9, _, o2, by rw [t1], gi, k9, ?_⟩
      rw [g10, nI_clamp (by omega : i < 2 ^ 31), f137 p (by omega), nb_add]
      have f2 : frO q I (am_u G (q + 1) i (nI p)) := by
        refine frO_t f ⟨fun c a1 a2 a3 a4 => ?_, fun z a1 a2 a3 => ?_⟩
        · rw [uu_h a2]; exact g.1 c a1
        · rw [uu_c (by omega)]; exact g.2 z a1 a2 a3
      have ea2 : EA P m M (am_u G (q + 1) i (nI p)) q 0 := EA_cg ea (by rw [uu_h (by omega)]; exact g.1 _ (by omega)) (by rw [uu_h (by omega)]; exact g.1 _ (by omega))
      have hr2 : ∀ k, k < i + 1 → am_u G (q + 1) i (nI p) (q + 1) k = nI (R.getD k 0) := by
        intro k hk
        by_cases z : k = i
        · subst z
          rw [uu_e]
          have := hR 0
          rw [show k + 0 = k from rfl] at this
          rw [this]
          rfl
        · rw [uu_n z, g.1 (q + 1) (by omega)]
          exact hr k (by omega)
      have hR2 : ∀ k, R.getD (i + 1 + k) 0 = (pk P m M n (p :: h)).getD k 0 := by
        intro k
        have := hR (k + 1)
        rw [getD_s] at this
        rw [show i + 1 + k = i + (k + 1) by omega]
        exact this
      have hp2 : ∀ z ∈ p :: h, z < 8 := fun z hz => by
        rcases List.mem_cons.mp hz with rfl | h2
        · omega
        · exact hp z h2
      have hd2 : ∀ z, z < 8 → (nI z = nI p ↔ (p :: h).head? = some z) := fun z hz => ⟨fun e => by rw [(nb_inj (by omega) (by omega)).mp e]; rfl, fun e => by
        have e : some p = some z := e
        rw [Option.some.inj e]⟩
      have go : ∀ q3, HD m q3 (p :: h) (i + 1) → lw_143_22 (n + 1) q v2 v3 q3 (nI (shr h + 8 ^ p)) (nI p) (nI i + 1) T r (am_u G (q + 1) i (nI p)) E := fun q3 h3 => ih (p :: h) q3 (nI p) _ (by rw [List.length_cons, hl]) hp2 hd2 h3 f2 ea2 hr2 hR2
      rcases hh with ⟨a, b⟩ | ⟨x, a, b, c, d⟩
      · rw [a]
        unfold w_141
        rw [if_pos (by decide)]
        exact go _ (Or.inl ⟨rfl, by omega⟩)
      · rw [b]
        refine q141 ob (Cx_O q99 cx f2).2.2.2 a (by omega) (fun z => go _ (Or.inr ?_)) (fun z => go _ (Or.inl ⟨rfl, ?_⟩))
        · obtain ⟨_, b2, _, _, e2⟩ := tb2 x z p (by omega)
          exact ⟨_, b2, rfl, HS_j c z (by omega), by rw [e2]; omega⟩
        · have k1 := (tb3 x a).2.2 z
          have k2 := c.1
          omega
theorem q143 {T : Nat → Nat × Nat} {r : Nat → Nat → Option Nat} {q : Nat} {I : am_I} {P : PRI} {m M : Nat} {K : am_I → Prop} (q99 : 99 ≤ q) (ob : OB T r q) (hm : m ≤ 8) (m0 : 0 < m) (hM : M < 2 ^ 31) (hP : ∀ p w b c, P p w b = some c → c ≤ 1000) (cx : Cx P m M I q) (ea : EA P m M I q 0) (hK : ∀ J, frO q I J → J q 0 = I q 0 → J q 1 = I q 1 → (∀ k, k < 6 → J (q + 1) k = nI ((pk P m M 6 []).getD k 0)) → K J) : w_143 q T r I K := by
  unfold w_143
  have k9 := ob.1
  refine ⟨k9, k9, 7, ?_⟩
  refine l143 (I := I) (R := pk P m M 6 []) (E := fun _ _ _ _ I8 => ((am_ts T q).1 = 9) ∧ ((am_ts T q).1 = 9) ∧ K (am_u (am_u I8 q 0 (I q 0)) q 1 (I q 1))) q99 ob hm m0 hM hP cx (fun _ _ _ _ J f hr => ⟨k9, k9, hK _ ?_ ?_ ?_ ?_⟩) 6 0 [] 0 (-1) I (by omega) rfl (fun p hp => absurd hp List.not_mem_nil) (fun p hp => ⟨fun e => absurd e (nI_m1 (by omega)), fun e => absurd e (by simp)⟩) (Or.inr ⟨0, by decide, rfl, ⟨tb4.1, tb4.2.1⟩, by rw [tb4.2.2.1]; exact m0⟩) (frO_0 q I) ea (fun k hk => absurd hk (by omega)) (fun k => by rw [Nat.zero_add])
  · refine frO_t f ⟨fun c a1 a2 a3 a4 => ?_, fun z a1 a2 a3 => ?_⟩
    · rw [uu_h a1, uu_h a1]
    · rw [uu_n a2, uu_n a1]
  · rw [uu_n (by decide), uu_e]
  · rw [uu_e]
  · intro k hk
    rw [uu_c (by omega), uu_c (by omega)]
    exact hr k hk
theorem q138 {T : Nat → Nat × Nat} {r : Nat → Nat → Option Nat} {q m M : Nat} {I : am_I} {fx : Option LWX} {K : am_I → Prop} (q99 : 99 ≤ q) (ob : OB T r q) (tb : Tb I q) (hm : m ≤ 8) (em : I 1 10 = nI m) (eM : I 12 1 = nI M) (hM : M < 2 ^ 31) (h : ∀ p, p < m → PWd I m p) (hw : ∀ K : Option Nat → Prop, (∀ o, (o = none ∧ fx = none) ∨ (∃ t X, o = some t ∧ fx = some X ∧ okX X ∧ ∀ G, frP q I G → LAWc T r G t X) → K o) → w_108 (I 1 16) T r I K)
    (hK : ∀ J, (∀ c, c ≠ 24 → c ≠ 25 → c ≠ 26 → c ≠ q → c ≠ q + 1 → c ≠ q + 6 → c ≠ q + 7 → c ≠ q + 8 → J c = I c) → (∀ k, k ≠ 0 → k ≠ 1 → k ≠ 10 → J q k = I q k) → J q 1 = nI (wy (prc I fx) m M 6 []).2.1 → (0 < (wy (prc I fx) m M 6 []).2.1 → J q 0 = nI (wy (prc I fx) m M 6 []).1 ∧ ∀ k, k < 6 → J (q + 1) k = nI ((pk (prc I fx) m M 6 []).getD k 0)) → K J) : w_138 q T r I K := by
  unfold w_138
  have k9 := ob.1
  refine ⟨k9, q139 q99 ob hm em h hw (fun J1 f1 pt => ⟨496, ?_⟩)⟩
  have cx : Cx (prc I fx) m M J1 q := by
    refine ⟨?_, ?_, pt, fun x hx => ?_, fun y hy => ?_⟩
    · rw [f1 1 (by decide) (by decide) (by decide) (by omega)]; exact em
    · rw [f1 12 (by decide) (by decide) (by decide) (by omega)]; exact eM
    · rw [f1 (q + 2) (by omega) (by omega) (by omega) (by omega)]; exact tb.1 x hx
    · rw [f1 (q + 3) (by omega) (by omega) (by omega) (by omega), f1 (q + 4) (by omega) (by omega) (by omega) (by omega), f1 (q + 5) (by omega) (by omega) (by omega) (by omega)]; exact tb.2 y hy
  have fin : ∀ J, frO q J1 J → J q 1 = nI (wy (prc I fx) m M 6 []).2.1 → (0 < (wy (prc I fx) m M 6 []).2.1 → J q 0 = nI (wy (prc I fx) m M 6 []).1 ∧ ∀ k, k < 6 → J (q + 1) k = nI ((pk (prc I fx) m M 6 []).getD k 0)) → K J := fun J f e1 e2 => hK J (fun c a1 a2 a3 a4 a5 a6 a7 a8 => (f.1 c a4 a5 a6 a7).trans (f1 c a1 a2 a3 a8)) (fun k a1 a2 a3 => (f.2 k a1 a2 a3).trans (by rw [f1 q (by omega) (by omega) (by omega) (by omega)])) e1 e2
  have hways : (wy (prc I fx) m M 6 []).2.1 ≤ 8 ^ 6 := wy_ways hm 6 []
  have e86 : 8 ^ 6 = 262144 := rfl
  refine l138 (I := J1) (P := prc I fx) (E := fun _ I5 => ((am_ts T q).1 = 9) ∧ (if ((am_u I5 q 1 0) 1 10) ≤ 0 then ((am_ts T q).1 = 9) ∧ (if ((am_u I5 q 1 0) q 1) ≤ 0 then K (am_u I5 q 1 0) else ((am_ts T q).1 = 9) ∧ w_143 q T r (am_u I5 q 1 0) (fun I6 => K I6)) else ((am_ts T q).1 = 9) ∧ w_142 q 0 0 (-1) T r (am_u I5 q 1 0) (fun I7 => ((am_ts T q).1 = 9) ∧ (if (I7 q 1) ≤ 0 then K I7 else ((am_ts T q).1 = 9) ∧ w_143 q T r I7 (fun I8 => K I8))))) q99 ob hm hM prc_le cx (fun _ J f ea => ⟨k9, ?_⟩) 495 494 J1 (by decide) (by decide) (frO_0 q J1) (fun y y1 y2 => absurd y2 (by omega))
  have f2 : frO q J1 (am_u J q 1 0) := by
    refine frO_t f ⟨fun c a1 a2 a3 a4 => ?_, fun z a1 a2 a3 => ?_⟩
    · rw [uu_h a1]
    · rw [uu_n a2]
  have cj := Cx_O q99 cx f2
  have ea2 : EA (prc I fx) m M (am_u J q 1 0) q 0 := EA_cg ea (by rw [uu_h (by omega)]) (by rw [uu_h (by omega)])
  rw [cj.1]
  rcases Nat.eq_zero_or_pos m with m0 | m0
  · subst m0
    refine am_ifp (by decide) ⟨k9, ?_⟩
    rw [uu_e]
    refine am_ifp (by decide) (fin _ f2 ?_ (fun k => absurd k (Nat.lt_irrefl 0)))
    rw [uu_e]
    rfl
  · refine am_ifn (fun k => ?_) ⟨k9, ?_⟩
    · have := (nb_le (a := m) (b := 0) (by omega) (by decide)).mp k
      omega
    · refine q142 (h := []) (n := 5) q99 ob hm cj.1 cj.2.1 hM prc_le cj.2.2.1 (fun p hp => absurd hp List.not_mem_nil) rfl (fun p hp => ⟨fun e => absurd e (nI_m1 (by omega)), fun e => absurd e (by simp)⟩) (Or.inr ⟨0, by decide, rfl, ?_, ?_⟩) (fun G hG => ⟨k9, ?_⟩)
      · rw [(cj.2.2.2.2 0 (by decide)).1, tb4.1]; rfl
      · have k := ea2 0 (Nat.le_refl _) (by decide) (by rw [tb4.2.2.1]; exact m0) [] ⟨tb4.1, tb4.2.1⟩ (fun p hp => absurd hp List.not_mem_nil)
        rw [tb4.1] at k
        exact k
      · obtain ⟨g, g0, g1, g10⟩ := hG
        have f3 : frO q J1 G := frO_t f2 (frO_W g)
        rw [g1]
        rw [show (5 : Nat) + 1 = 6 from rfl] at *
        by_cases z : (wy (prc I fx) m M 6 []).2.1 = 0
        · refine am_ifp (by rw [z]; decide) (fin G f3 g1 (fun k => absurd z (by omega)))
        · refine am_ifn (fun k => ?_) ⟨k9, ?_⟩
          · have := (nb_le (b := 0) (by omega) (by decide)).mp k
            omega
          · refine q143 (P := prc I fx) (m := m) (M := M) q99 ob hm m0 hM prc_le (Cx_O q99 cx f3) (EA_cg ea2 (g.1 _ (by omega)) (g.1 _ (by omega))) (fun H hH h0 h1 hrow => ?_)
            exact fin H (frO_t f3 hH) (h1.trans g1) (fun _ => ⟨h0.trans g0, hrow⟩)
