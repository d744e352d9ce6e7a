/-! WHAT IS SAID OF THE CELLS FROM 99 ON: texts of laws, images, the rota (SZ its cells; RT its rows; PL that it is the state's) -/
def LAWd (T : Nat → Nat × Nat) (r : Nat → Nat → Option Nat) (I : am_I) (t : Nat) (X : LWX) : Prop := LAWc T r I t X ∧ am_rs r t 0 = some (t + 1) ∧ am_rs r t 3 = some (t + 2) ∧ am_rs r t 5 = some (t + 4)
theorem LAWd_cg {T T' : Nat → Nat × Nat} {r r' : Nat → Nat → Option Nat} {I J : am_I} {t : Nat} {X : LWX} (h : LAWd T r I t X) (e : ∀ c, t ≤ c → c < t + 5 → T' c = T c ∧ (∀ j, r' c j = r c j) ∧ J c = I c) : LAWd T' r' J t X := by
  obtain ⟨⟨c0, c3, c5, n, C, mk, y1, y2, y3, y4, y5, y6, y7, y8, y9, y10, y11, y12, y13, y14, y15, y16, y17, y18, y19, y20, y21, y22⟩, h0, h3, h5⟩ := h
  have e0 : c0 = t + 1 := Option.some.inj (y6.symm.trans h0)
  have e3 : c3 = t + 2 := Option.some.inj (y7.symm.trans h3)
  have e5 : c5 = t + 4 := Option.some.inj (y8.symm.trans h5)
  subst e0 e3 e5
  obtain ⟨u1, u2, u3⟩ := e t (by omega) (by omega)
  obtain ⟨v1, v2, v3⟩ := e (t + 1) (by omega) (by omega)
  obtain ⟨w1, w2, w3⟩ := e (t + 2) (by omega) (by omega)
  obtain ⟨x1, x2, x3⟩ := e (t + 4) (by omega) (by omega)
  have ts : ∀ c, 99 ≤ c → T' c = T c → am_ts T' c = am_ts T c := fun c hc h => by rw [am_ts_hi hc, am_ts_hi hc, h]
  have rs : ∀ j, am_rs r' t j = am_rs r t j := fun j => am_rs_ap (u2 j)
  refine ⟨⟨t + 1, t + 2, t + 4, n, C, mk, y1, y2, y3, y4, ?_, ?_, ?_, ?_, ?_, ?_, ?_, ?_, ?_, ?_, ?_, y16, ?_, ?_, ?_, ?_, ?_, y22⟩, ?_, ?_, ?_⟩
  · rw [ts t y1 u1]; exact y5
  · rw [rs]; exact y6
  · rw [rs]; exact y7
  · rw [rs]; exact y8
  · rw [ts _ y2 v1]; exact y9
  · rw [ts _ y3 w1]; exact y10
  · rw [ts _ y4 x1]; exact y11
  · rw [ts _ y2 v1]; exact y12
  · rw [ts _ y3 w1]; exact y13
  · rw [ts _ y4 x1]; exact y14
  · rw [ts _ y4 x1]; exact y15
  · rw [u3]; exact y17
  · rw [u3]; exact y18
  · rw [v3]; exact y19
  · rw [w3]; exact y20
  · rw [x3]; exact y21
  · rw [rs]; exact y6
  · rw [rs]; exact y7
  · rw [rs]; exact y8
theorem LAWr_cg {R R' : Nat → Int32} {bs : Nat} {X : LWX} (h : LAWr R bs X) (hX : okX X) (e : ∀ i, bs ≤ i → i < bs + 900 → R' i = R i) : LAWr R' bs X := by
  obtain ⟨n, C, mk, y1, y2, y3, y4, y5⟩ := h
  have n12 := hX.1
  refine ⟨n, C, mk, y1, (e _ (by omega) (by omega)).trans y2, fun c hc => ?_, fun k hk => ?_, y5⟩
  · obtain ⟨z1, z2, z3, z4, z5⟩ := y3 c hc
    exact ⟨(e _ (by omega) (by omega)).trans z1, (e _ (by omega) (by omega)).trans z2, (e _ (by omega) (by omega)).trans z3, (e _ (by omega) (by omega)).trans z4, (e _ (by omega) (by omega)).trans z5⟩
  · obtain ⟨w1, w2, w3⟩ := y4 k hk
    exact ⟨(e _ (by omega) (by omega)).trans w1, (e _ (by omega) (by omega)).trans w2, w3⟩
/-- a text's place -/
def okT (SZ N : Nat) (r : Nat → Nat → Option Nat) (t : Nat) : Prop := 99 ≤ t ∧ t + 5 ≤ N ∧ (∀ k p, k < 2 → r 13 k = some p → t + 5 ≤ p ∨ p + 12 ≤ t) ∧ ∀ q, r 0 9 = some q → t + 5 ≤ q ∨ q + SZ ≤ t
/-- places of laws: each empty, or a text -/
def DSl (SZ N : Nat) (T : Nat → Nat × Nat) (r : Nat → Nat → Option Nat) (a : Nat) : Prop := ∀ j t, j < 6 → r a j = some t → okT SZ N r t ∧ (T t).1 = 11
/-- laws there are: l of them, by the cell a and the row R -/
def DLa (T : Nat → Nat × Nat) (r : Nat → Nat → Option Nat) (I : am_I) (a : Nat) (x : Int32) (R : Nat → Int32) : Prop := ∀ l, l ≤ 6 → x = nI l → ∀ k, k < l → ∃ t X, r a k = some t ∧ okX X ∧ LAWd T r I t X ∧ LAWr R (110 + 900 * k) X
def imR (I : am_I) (k : Nat) : Nat → Int32 := fun i => I 69 (5510 * k + i)
def DIm (SZ N : Nat) (T : Nat → Nat × Nat) (r : Nat → Nat → Option Nat) (I : am_I) (k : Nat) : Prop := (r 13 k = none ∧ I 70 k = 0) ∨ ∃ p, r 13 k = some p ∧ I 70 k = 1 ∧ 99 ≤ p ∧ p + 12 ≤ N ∧ PSN T r p ∧ DSl SZ N T r (p + 10) ∧ PRd (I p) (I (p + 1)) (I (p + 2)) (imR I k) ∧ PRm (I p) (I (p + 3)) (I (p + 4)) (I (p + 5)) (I (p + 6)) (I (p + 7)) (imR I k) ∧ PRc (I p) (I (p + 8)) (I (p + 9)) (imR I k) ∧ PRl (I p) (imR I k) ∧ PRt (I p) (I (p + 11)) (imR I k) ∧ DLa T r I (p + 10) (I p 15) (imR I k)
theorem PSN_cg {T T' : Nat → Nat × Nat} {r r' : Nat → Nat → Option Nat} {a : Nat} (h : PSN T r a) (ha : 99 ≤ a) (hT : ∀ c, a ≤ c → c < a + 12 → T' c = T c) (hr : ∀ j, r' a j = r a j) : PSN T' r' a := by
  have ts : ∀ i, i < 12 → am_ts T' (a + i) = am_ts T (a + i) := fun i hi => by rw [am_ts_hi (by omega), am_ts_hi (by omega), hT (a + i) (by omega) (by omega)]
  have t0 : am_ts T' a = am_ts T a := ts 0 (by decide)
  have rs : ∀ j, am_rs r' a j = am_rs r a j := fun j => am_rs_ap (hr j)
  unfold PSN at h ⊢
  rw [t0, rs, rs, rs, rs, rs, rs, rs, rs, rs, rs, rs, ts 1 (by decide), ts 2 (by decide), ts 3 (by decide), ts 4 (by decide), ts 5 (by decide), ts 6 (by decide), ts 7 (by decide), ts 8 (by decide), ts 9 (by decide), ts 10 (by decide), ts 11 (by decide)]
  exact h
abbrev TRI : Type := (Nat → Nat × Nat) → (Nat → Nat → Option Nat) → am_I → Nat → Prop
def DD (SZ : Nat) (RT PL : TRI) : am_P := fun N T r I _ => 99 ≤ N ∧ DSl SZ N T r 11 ∧ DLa T r I 11 (I 1 15) (I 68) ∧ DIm SZ N T r I 0 ∧ DIm SZ N T r I 1 ∧ (∀ p p', r 13 0 = some p → r 13 1 = some p' → p + 12 ≤ p' ∨ p' + 12 ≤ p) ∧ (∀ k p q, k < 2 → r 13 k = some p → r 0 9 = some q → p + 12 ≤ q ∨ q + SZ ≤ p) ∧ (r 0 9 = none → I 0 10 = 0) ∧ ∀ q, r 0 9 = some q → 99 ≤ q ∧ q + SZ ≤ N ∧ RT T r I q ∧ (I 0 10 = 0 ∨ PL T r I q)
/-- the rota's rows stay where its cells stay -/
def frRT (SZ : Nat) (RT : TRI) : Prop := ∀ T r I T' r' I' q, 99 ≤ q → (∀ c, q ≤ c → c < q + SZ → T' c = T c ∧ (∀ j, r' c j = r c j) ∧ I' c = I c) → RT T r I q → RT T' r' I' q
def frPL (PL : TRI) : Prop := ∀ T r I I' q, (∀ c, 99 ≤ c → I' c = I c) → I' 1 15 = I 1 15 → (∀ i, 110 ≤ i → I' 68 i = I 68 i) → I' 1 10 = I 1 10 → I' 1 16 = I 1 16 → I' 4 = I 4 → I' 5 = I 5 → I' 7 = I 7 → I' 12 = I 12 → PL T r I q → PL T r I' q
theorem DLa_cg {T : Nat → Nat × Nat} {r : Nat → Nat → Option Nat} {I J : am_I} {a : Nat} {x : Int32} {R R' : Nat → Int32} (h : DLa T r I a x R) (e : ∀ c, 99 ≤ c → J c = I c) (eR : ∀ i, 110 ≤ i → i < 5510 → R' i = R i) : DLa T r J a x R' := by
  intro l hl hx k hk
  obtain ⟨t, X, h1, h2, h3, h4⟩ := h l hl hx k hk
  obtain ⟨c0, c3, c5, n, C, mk, y1, _⟩ := h3.1
  exact ⟨t, X, h1, h2, LAWd_cg h3 (fun c c1 c2 => ⟨rfl, fun _ => rfl, e c (by omega)⟩), LAWr_cg h4 h2 (fun i i1 i2 => eR i (by omega) (by omega))⟩
theorem DD_fr {SZ : Nat} {RT PL : TRI} (hR : frRT SZ RT) (hP : frPL PL) : FrD (DD SZ RT PL) := by
  intro N T r I I' L hf h
  obtain ⟨f1, f2, f3, f4, f5, f6⟩ := hf
  obtain ⟨h1, h2, h3, h4, h5, h6, h7, h8, h9⟩ := h
  have im : ∀ k, DIm SZ N T r I k → DIm SZ N T r I' k := by
    intro k hk
    rcases hk with ⟨a1, a2⟩ | ⟨p, a1, a2, a3, a4, a5, a6, a7, a8, a9, a10, a11, a12⟩
    · exact Or.inl ⟨a1, by rw [f5]; exact a2⟩
    · have er : imR I' k = imR I k := by
        unfold imR
        rw [f4]
      refine Or.inr ⟨p, a1, by rw [f5]; exact a2, a3, a4, a5, a6, ?_, ?_, ?_, ?_, ?_, ?_⟩
      · rw [er, f1 p a3, f1 (p + 1) (by omega), f1 (p + 2) (by omega)]; exact a7
      · rw [er, f1 p a3, f1 (p + 3) (by omega), f1 (p + 4) (by omega), f1 (p + 5) (by omega), f1 (p + 6) (by omega), f1 (p + 7) (by omega)]; exact a8
      · rw [er, f1 p a3, f1 (p + 8) (by omega), f1 (p + 9) (by omega)]; exact a9
      · rw [er, f1 p a3]; exact a10
      · rw [er, f1 p a3, f1 (p + 11) (by omega)]; exact a11
      · rw [er, f1 p a3]
        exact DLa_cg a12 f1 (fun i _ _ => rfl)
  refine ⟨h1, h2, ?_, im 0 h4, im 1 h5, h6, h7, ?_, fun q hq => ?_⟩
  · rw [f2]
    exact DLa_cg h3 f1 (fun i i1 _ => f3 i i1)
  · intro hn
    rcases f6 with z | ⟨z, _⟩
    · exact z
    · rw [z]; exact h8 hn
  · obtain ⟨q1, q2, q3, q4⟩ := h9 q hq
    refine ⟨q1, q2, hR T r I T r I' q q1 (fun c c1 _ => ⟨rfl, fun _ => rfl, f1 c (by omega)⟩) q3, ?_⟩
    rcases f6 with z | ⟨z1, z2, z3, z4, z5, z6, z7⟩
    · exact Or.inl z
    · rcases q4 with q4 | q4
      · exact Or.inl (by rw [z1]; exact q4)
      · exact Or.inr (hP T r I I' q f1 f2 f3 z2 z3 z4 z5 z6 z7 q4)
theorem DD_L {SZ : Nat} {RT PL : TRI} : FrL (DD SZ RT PL) := fun _ _ _ _ _ _ h => h
theorem DD_W {SZ : Nat} {RT PL : TRI} : hasL (DD SZ RT PL) := by
  intro N T r I L h l hl el k hk
  obtain ⟨t, X, h1, h2, h3, h4⟩ := h.2.2.1 l hl el k hk
  exact ⟨t, X, h1, h2, h3.1, h4⟩
/-! parts of what holds, where all numbers are copied -/
theorem PRm_cp {c1 c4 c5 c6 c7 c8 R c1' c4' c5' c6' c7' c8' R' : Nat → Int32} (h : PRm c1 c4 c5 c6 c7 c8 R) (e1 : c1' 10 = c1 10) (e2 : c1' 9 = c1 9) (g4 : ∀ k, k < 8 → c4' k = c4 k) (g5 : ∀ k, k < 8 → c5' k = c5 k) (g6 : ∀ k, k < 8 → c6' k = c6 k) (g7 : ∀ k, k < 8 → c7' k = c7 k) (g8 : ∀ k, k < 8 → c8' k = c8 k) (r0 : R' 1 = R 1) (r1 : ∀ i, 10 ≤ i → i < 58 → R' i = R i) : PRm c1' c4' c5' c6' c7' c8' R' := by
  obtain ⟨m, v, hm, hv, a1, a2, a3, a4⟩ := h
  refine ⟨m, v, hm, hv, e1.trans a1, r0.trans a2, e2.trans a3, fun p hp => ?_⟩
  obtain ⟨b1, b2⟩ := a4 p hp
  exact ⟨(r1 _ (by omega) (by omega)).trans b1, PRp_cg b2 (by omega) (g4 p (by omega)) (g5 p (by omega)) (g6 p (by omega)) (g7 p (by omega)) (g8 p (by omega)) (fun i h1 h2 => r1 i h1 (by omega))⟩
theorem PRc_cp {c1 c9 c10 R c1' c9' c10' R' : Nat → Int32} (h : PRc c1 c9 c10 R) (e1 : c1' 13 = c1 13) (g9 : ∀ k, k < 8 → c9' k = c9 k) (g10 : ∀ k, k < 8 → c10' k = c10 k) (r1 : R' 1 = R 1) (r2 : R' 2 = R 2) (r3 : ∀ i, 94 ≤ i → i < 110 → R' i = R i) : PRc c1' c9' c10' R' := by
  obtain ⟨c, m, hc, hm, a1, a2, a3, a4⟩ := h
  refine ⟨c, m, hc, hm, e1.trans a1, r2.trans a2, r1.trans a3, fun k hk => ?_⟩
  obtain ⟨g, i, hg, hi, b1, b2, b3, b4⟩ := a4 k hk
  exact ⟨g, i, hg, hi, (g9 k (by omega)).trans b1, (g10 k (by omega)).trans b2, (r3 _ (by omega) (by omega)).trans b3, (r3 _ (by omega) (by omega)).trans b4⟩
theorem PRt_cp {c1 c12 R c1' c12' R' : Nat → Int32} (h : PRt c1 c12 R) (e1 : c1' 18 = c1 18) (g : ∀ k, k < 4 → c12' k = c12 k) (r : ∀ i, 5 ≤ i → i < 10 → R' i = R i) : PRt c1' c12' R' := by
  obtain ⟨a, b, c, d, e, h1, h2, h3, h4, h5, h6, q1, q2, q3, q4, q5, s1, s2, s3, s4, s5⟩ := h
  exact ⟨a, b, c, d, e, h1, h2, h3, h4, h5, h6, (g 0 (by decide)).trans q1, (g 1 (by decide)).trans q2, (g 2 (by decide)).trans q3, (g 3 (by decide)).trans q4, e1.trans q5, (r _ (by decide) (by decide)).trans s1, (r _ (by decide) (by decide)).trans s2, (r _ (by decide) (by decide)).trans s3, (r _ (by decide) (by decide)).trans s4, (r _ (by decide) (by decide)).trans s5⟩
/-- a state copied: all parts -/
def CPX (a x : Nat) (I F : am_I) : Prop := (∀ k, k < 12 → F (a + 1) k = I (x + 1) k ∧ F (a + 2) k = I (x + 2) k) ∧ (∀ i k, 3 ≤ i → i ≤ 9 → k < 8 → F (a + i) k = I (x + i) k) ∧ (∀ k, k < 4 → F (a + 11) k = I (x + 11) k) ∧ ∀ j, (j = 2 ∨ j = 3 ∨ j = 9 ∨ j = 10 ∨ j = 13 ∨ j = 15 ∨ j = 16 ∨ j = 18) → F a j = I x j
theorem PR_cp {I F : am_I} {a x : Nat} {R R' : Nat → Int32} (hc : CPX a x I F) (hR : ∀ i, i < 5510 → R' i = R i) : (PRd (I x) (I (x + 1)) (I (x + 2)) R → PRd (F a) (F (a + 1)) (F (a + 2)) R') ∧ (PRm (I x) (I (x + 3)) (I (x + 4)) (I (x + 5)) (I (x + 6)) (I (x + 7)) R → PRm (F a) (F (a + 3)) (F (a + 4)) (F (a + 5)) (F (a + 6)) (F (a + 7)) R') ∧ (PRc (I x) (I (x + 8)) (I (x + 9)) R → PRc (F a) (F (a + 8)) (F (a + 9)) R') ∧ (PRl (I x) R → PRl (F a) R') ∧ (PRt (I x) (I (x + 11)) R → PRt (F a) (F (a + 11)) R') := by
  obtain ⟨k2, k3, k4, k5⟩ := hc
  refine ⟨fun h => ?_, fun h => ?_, fun h => ?_, fun h => ?_, fun h => ?_⟩
  · exact PRd_cg h (k5 2 (by omega)) (k5 3 (by omega)) (fun d hd => (k2 d hd).1) (fun d hd => (k2 d hd).2) (hR 0 (by omega)) (fun i i1 i2 => hR i (by omega))
  · exact PRm_cp h (k5 10 (by omega)) (k5 9 (by omega)) (fun k hk => k3 3 k (by omega) (by omega) hk) (fun k hk => k3 4 k (by omega) (by omega) hk) (fun k hk => k3 5 k (by omega) (by omega) hk) (fun k hk => k3 6 k (by omega) (by omega) hk) (fun k hk => k3 7 k (by omega) (by omega) hk) (hR 1 (by omega)) (fun i i1 i2 => hR i (by omega))
  · exact PRc_cp h (k5 13 (by omega)) (fun k hk => k3 8 k (by omega) (by omega) hk) (fun k hk => k3 9 k (by omega) (by omega) hk) (hR 1 (by omega)) (hR 2 (by omega)) (fun i i1 i2 => hR i (by omega))
  · exact PRl_cg h (k5 15 (by omega)) (k5 16 (by omega)) (hR 3 (by omega)) (hR 4 (by omega))
  · exact PRt_cp h (k5 18 (by omega)) k4 (fun i i1 i2 => hR i (by omega))
