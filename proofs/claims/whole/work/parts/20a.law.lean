/-! what a law is: clauses, each a kind, a test or none, a sum -/
abbrev LWX : Type := Nat × (Nat → Nat) × (Nat → Bool) × (Nat → FN) × (Nat → FN)
def wenv (wd : Nat → Int) : Nat → Nat → Int := fun _ w => wd w
/-- what a clause tells -/
def hld (X : LWX) (e : Nat → Nat → Int) (c : Nat) : Option Int := if X.2.2.1 c = true ∧ X.2.2.2.1 c e ≠ some 1 then none else if X.2.1 c = 3 then some 1 else X.2.2.2.2 c e
/-- what the last clause of a kind that holds tells -/
def tel (X : LWX) (e : Nat → Nat → Int) (kind : Nat) : Nat → Option Int
  | 0 => none
  | c + 1 => if X.2.1 c = kind then (match hld X e c with
    | some v => some v
    | none => tel X e kind c) else tel X e kind c
/-- code that a law may have -/
def okC (C : Nat → Nat × Nat) (k : Nat) : Prop := (C k).1 < 15 ∧ (C k).1 ≠ 2 ∧ (C k).1 ≠ 3 ∧ (C k).2 ≤ 100000 ∧ ((C k).1 = 1 → (C k).2 < 10) ∧ (13 ≤ (C k).1 → k + 1 ≤ (C k).2)
/-- a clause's pieces of code -/
def pcs (C : Nat → Nat × Nat) (n D : Nat) (X : LWX) (c a b a' b' : Nat) : Prop := b ≤ n ∧ b' ≤ n ∧ (X.2.1 c = 3 → a = b) ∧ (X.2.1 c ≠ 3 → Den C a b (X.2.2.2.2 c) D) ∧ (X.2.2.1 c = false → a' = b') ∧ (X.2.2.1 c = true → Den C a' b' (X.2.2.2.1 c) D)
def okX (X : LWX) : Prop := X.1 ≤ 12 ∧ ∀ c, c < X.1 → X.2.1 c ≤ 3 ∧ (X.2.2.1 c = true → T01 (X.2.2.2.1 c))
def LAWc (T : Nat → Nat × Nat) (r : Nat → Nat → Option Nat) (I : am_I) (t : Nat) (X : LWX) : Prop := ∃ (c0 c3 c5 n : Nat) (C : Nat → Nat × Nat) (mk : Nat → Nat → Nat), 99 ≤ t ∧ 99 ≤ c0 ∧ 99 ≤ c3 ∧ 99 ≤ c5 ∧ (am_ts T t).1 = 11 ∧ am_rs r t 0 = some c0 ∧ am_rs r t 3 = some c3 ∧ am_rs r t 5 = some c5 ∧ (am_ts T c0).1 = 20 ∧ (am_ts T c3).1 = 20 ∧ (am_ts T c5).1 = 20 ∧ n ≤ (am_ts T c0).2 ∧ X.1 ≤ (am_ts T c3).2 ∧ 5 * X.1 ≤ (am_ts T c5).2 ∧ (am_ts T c5).2 ≤ 60 ∧ n ≤ 400 ∧ I t 1 = nI n ∧ I t 2 = nI X.1 ∧ (∀ k, k < n → I c0 k = nI ((C k).1 + 16 * (C k).2) ∧ okC C k) ∧ (∀ c, c < X.1 → I c3 c = nI (X.2.1 c)) ∧ (∀ c i, c < X.1 → i < 5 → I c5 (c * 5 + i) = nI (mk c i)) ∧ ∀ c, c < X.1 → pcs C n 32 X c (mk c 0) (mk c 1) (mk c 3) (mk c 4)
def LAWr (R : Nat → Int32) (bs : Nat) (X : LWX) : Prop := ∃ (n : Nat) (C : Nat → Nat × Nat) (mk : Nat → Nat → Nat), n ≤ 400 ∧ R (bs + 1) = nI X.1 ∧ (∀ c, c < X.1 → R (bs + 2 + 8 * c) = nI (X.2.1 c) ∧ R (bs + 2 + 8 * c + 3) = nI (mk c 0) ∧ R (bs + 2 + 8 * c + 4) = nI (mk c 1) ∧ R (bs + 2 + 8 * c + 5) = nI (mk c 3) ∧ R (bs + 2 + 8 * c + 6) = nI (mk c 4)) ∧ (∀ k, k < n → R (bs + 98 + 2 * k) = nI (rpo false (C k).1 (C k).2) ∧ R (bs + 98 + 2 * k + 1) = nI (rpa (C k).1 (C k).2) ∧ okC C k) ∧ ∀ c, c < X.1 → pcs C n 400 X c (mk c 0) (mk c 1) (mk c 3) (mk c 4)
theorem pcs_le {C : Nat → Nat × Nat} {n D c a b a' b' : Nat} {X : LWX} (h : pcs C n D X c a b a' b') : a ≤ b ∧ a' ≤ b' := by
  obtain ⟨_, _, h3, h4, h5, h6⟩ := h
  constructor
  · by_cases k : X.2.1 c = 3
    · exact Nat.le_of_eq (h3 k)
    · exact Nat.le_of_lt (h4 k).1
  · cases k : X.2.2.1 c
    · exact Nat.le_of_eq (h5 k)
    · exact Nat.le_of_lt (h6 k).1
/-- told, by the class -/
def cl9 (z : Int32) : Int32 := if (0 : Int32) < (if z < (999 : Int32) then z else (999 : Int32)) then (if z < (999 : Int32) then z else (999 : Int32)) else (0 : Int32)
theorem q83 {T : Nat → Nat × Nat} {r : Nat → Nat → Option Nat} {I : am_I} {t c3 nc c kd : Nat} {K : Int32 → Prop} (h1 : (am_ts T t).1 = 11) (h2 : am_rs r t 3 = some c3) (h3 : (am_ts T c3).1 = 20) (h4 : nc ≤ (am_ts T c3).2) (h5 : I t 2 = nI nc) (hn : nc ≤ 12) (hc : c < nc) (h6 : I c3 c = nI kd) (hK : K (nI kd)) : w_83 t (nI c) T r I K := by
  unfold w_83
  refine ⟨h1, ?_⟩
  rw [h5]
  rcases qlz (nI c) nc (by omega) with ⟨_, g⟩ | ⟨a, _⟩
  · exact absurd rfl (g c hc)
  · rw [if_neg (by rw [a]; decide)]
    refine ⟨h1, c3, h2, h3, ?_, ?_⟩
    · rw [nI_clamp (by omega)]
      rintro (g | g)
      · exact nI_pos (by omega) g
      · omega
    · rw [nI_clamp (by omega), h6]
      exact hK
theorem run_nil {C : Nat → Nat × Nat} {M : Nat} {e : Nat → Nat → Int} {a : Nat} : run C M e a a [] = some (some []) := run_end (Nat.le_refl a)
theorem l112 {T : Nat → Nat × Nat} {r : Nat → Nat → Option Nat} {I : am_I} {X : LWX} {t m kind : Nat} {wd : Nat → Int} {x3 : Int32} {E R : Int32 → am_I → Prop} (hm : m ≤ 8) (em : I 1 10 = nI m) (hX : okX X) (hL : LAWc T r I t X) (hk : kind ≤ 3) (hw : ∀ w, w < 10 → -1000000000 ≤ wd w ∧ wd w ≤ 1000000000 ∧ I 25 w = Int32.ofInt (wd w))
    (hE : tel X (wenv wd) kind X.1 = none → ∀ J u, (∀ c, c ≠ 24 → c ≠ 26 → J c = I c) → E u J) (hR : ∀ v, tel X (wenv wd) kind X.1 = some v → ∀ J, (∀ c, c ≠ 24 → c ≠ 26 → J c = I c) → R (cl9 (Int32.ofInt v)) J) : ∀ c J w, c ≤ X.1 → w = nI c + (-1) → (∀ c, c ≠ 24 → c ≠ 26 → J c = I c) → tel X (wenv wd) kind X.1 = tel X (wenv wd) kind c → lw_112s_15 (c + 1) t (nI kind) x3 w T r J E R := by
  obtain ⟨c0, c3, c5, n, C, mk, y1, y2, y3, y4, y5, y6, y7, y8, y9, y10, y11, y12, y13, y14, y15, y16, y17, y18, y19, y20, y21, y22⟩ := hL
  intro c
  induction c with
  | zero =>
    intro J w hc hw' hJ ht
    unfold lw_112s_15
    rw [if_pos (by rw [hw']; decide)]
    exact hE ht J _ hJ
  | succ c ih =>
    intro J w hc hw' hJ ht
    have ew : w = nI c := by
      rw [hw', Int32.add_neg_eq_sub]
      exact nb_sub (a := c + 1) (b := 1) (by omega)
    have n12 := hX.1
    obtain ⟨kd3, t01⟩ := hX.2 c (by omega)
    have et : tel X (wenv wd) kind (c + 1) = (if X.2.1 c = kind then (match hld X (wenv wd) c with
      | some v => some v
      | none => tel X (wenv wd) kind c) else tel X (wenv wd) kind c) := rfl
    obtain ⟨p1, p2, p3, p4, p5, p6⟩ := y22 c (by omega)
    obtain ⟨pl1, pl2⟩ := pcs_le (y22 c (by omega))
    unfold lw_112s_15
    rw [ew, if_neg (nI_pos (by omega))]
    generalize hq : nI c + (-1) = w'
    have next : ∀ G : am_I, (∀ c, c ≠ 24 → c ≠ 26 → G c = I c) → tel X (wenv wd) kind X.1 = tel X (wenv wd) kind c → lw_112s_15 (c + 1) t (nI kind) x3 w' T r G E R := fun G hG hh => ih G w' (by omega) hq.symm hG hh
    refine ⟨y5, ?_⟩
    have Jt : J t = I t := hJ t (by omega) (by omega)
    refine q83 (c3 := c3) (nc := X.1) (kd := X.2.1 c) y5 y7 y10 y13 (by rw [Jt]; exact y18) n12 (by omega) (by rw [hJ c3 (by omega) (by omega)]; exact y20 c (by omega)) ?_
    by_cases ck : X.2.1 c = kind
    · rw [if_pos ck] at et
      refine am_ifp (by rw [ck]) ?_
      have mkc : ∀ (G : am_I), (∀ c, c ≠ 24 → c ≠ 26 → G c = I c) → ∀ i, i < 5 → MKc T r G t c i (mk c i) := fun G hG i hi => ⟨y5, c5, y8, y11, by omega, y15, by rw [hG c5 (by omega) (by omega)]; exact y21 c i (by omega) hi⟩
      have txc : ∀ (G : am_I), (∀ c, c ≠ 24 → c ≠ 26 → G c = I c) → TXc T r G t c0 n C := fun G hG => ⟨y5, y6, y9, y12, y16, by omega, by omega, fun k hk => by rw [hG c0 (by omega) (by omega)]; exact (y19 k hk).1⟩
      have cwd : ∀ (G : am_I), (∀ c, c ≠ 24 → c ≠ 26 → G c = I c) → ∀ b, b ≤ n → ∀ k, k < b → CWd G C (wenv wd) m k := fun G hG b hb k hk => by
        obtain ⟨o1, o2, o3, o4, o5, o6⟩ := (y19 k (by omega)).2
        refine ⟨o1, o4, fun h1 => ?_, fun h1 => absurd h1 o2, fun h1 => absurd h1 o3⟩
        have w10 := o5 h1
        obtain ⟨w1, w2, w3⟩ := hw _ w10
        exact ⟨by omega, w1, w2, by rw [hG 25 (by decide) (by decide)]; exact w3⟩
      -- the test
      obtain ⟨Rt, hRt, hRt2⟩ : ∃ Rt, run C 32 (wenv wd) (mk c 4) (mk c 3) [] = some Rt ∧ (Rt = none → X.2.2.1 c = true ∧ X.2.2.2.1 c (wenv wd) ≠ some 1) ∧ ∀ s, Rt = some s → (top1 s = 1 ↔ ¬ (X.2.2.1 c = true ∧ X.2.2.2.1 c (wenv wd) ≠ some 1)) := by
        cases hht : X.2.2.1 c with
        | false =>
          rw [← p5 hht]
          refine ⟨_, run_nil, (fun h => by cases h), fun s hs => ?_⟩
          rw [← Option.some.inj hs]
          exact ⟨(fun _ q => by cases q.1), fun _ => rfl⟩
        | true =>
          have hr := Den_run (p6 hht) (M := 32) (Nat.le_refl 32) (wenv wd)
          cases hv : X.2.2.2.1 c (wenv wd) with
          | none =>
            rw [hv] at hr
            exact ⟨_, hr, fun _ => ⟨rfl, by simp⟩, fun s hs => by cases hs⟩
          | some v =>
            rw [hv] at hr
            refine ⟨_, hr, (fun h => by cases h), fun s hs => ?_⟩
            rw [← Option.some.inj hs]
            show Int32.ofInt v = 1 ↔ _
            rcases t01 hht _ v hv with z | z
            · rw [z]
              exact ⟨(fun q => absurd q (by decide)), fun q => absurd (And.intro rfl (by simp)) q⟩
            · rw [z]
              exact ⟨fun _ q => q.2 rfl, fun _ => rfl⟩
      refine q87 (i := 3) (R := Rt) hm (by rw [hJ 1 (by decide) (by decide)]; exact em) (txc J hJ) (by rw [Jt]; exact y17) (mkc J hJ 3 (by decide)) (mkc J hJ 4 (by decide)) pl2 p2 (cwd J hJ _ p2) hRt (fun hn G hG => ?_) (fun s hs G hG g1 => ?_)
      · have hG' : ∀ c, c ≠ 24 → c ≠ 26 → G c = I c := fun c c1 c2 => (hG c c1 c2).trans (hJ c c1 c2)
        refine am_ifp rfl (next G hG' ?_)
        have hh : hld X (wenv wd) c = none := by
          unfold hld
          rw [if_pos (hRt2.1 hn)]
        rw [hh] at et
        exact ht.trans et
      · have hG' : ∀ c, c ≠ 24 → c ≠ 26 → G c = I c := fun c c1 c2 => (hG c c1 c2).trans (hJ c c1 c2)
        refine am_ifn (by decide) ?_
        rw [g1]
        by_cases tt : top1 s = 1
        · refine am_ifp tt ?_
          have nh := (hRt2.2 s hs).mp tt
          have Gt : G t = I t := hG' t (by omega) (by omega)
          by_cases k3 : X.2.1 c = 3
          · have hh : hld X (wenv wd) c = some 1 := by
              unfold hld
              rw [if_neg nh, if_pos k3]
            rw [hh] at et
            have hR0 : run C 32 (wenv wd) (mk c 1) (mk c 0) [] = some (some []) := by
              rw [← p3 k3]
              exact run_nil
            refine q87 (i := 0) (R := some []) hm (by rw [hG' 1 (by decide) (by decide)]; exact em) (txc G hG') (by rw [Gt]; exact y17) (mkc G hG' 0 (by decide)) (mkc G hG' 1 (by decide)) pl1 p1 (cwd G hG' _ p1) hR0 (fun hn => by cases hn) (fun s' hs' H hH h1 => ?_)
            have es : s' = [] := (Option.some.inj hs').symm
            rw [es] at h1
            refine am_ifn (by decide) ?_
            rw [h1]
            exact hR 1 (ht.trans et) H (fun c c1 c2 => (hH c c1 c2).trans (hG' c c1 c2))
          · have hh : hld X (wenv wd) c = X.2.2.2.2 c (wenv wd) := by
              unfold hld
              rw [if_neg nh, if_neg k3]
            have hr := Den_run (p4 k3) (M := 32) (Nat.le_refl 32) (wenv wd)
            cases hv : X.2.2.2.2 c (wenv wd) with
            | none =>
              rw [hv] at hr hh
              rw [hh] at et
              refine q87 (i := 0) (R := none) hm (by rw [hG' 1 (by decide) (by decide)]; exact em) (txc G hG') (by rw [Gt]; exact y17) (mkc G hG' 0 (by decide)) (mkc G hG' 1 (by decide)) pl1 p1 (cwd G hG' _ p1) hr (fun _ H hH => ?_) (fun s' hs' => by cases hs')
              exact am_ifp rfl (next H (fun c c1 c2 => (hH c c1 c2).trans (hG' c c1 c2)) (ht.trans et))
            | some v =>
              rw [hv] at hr hh
              rw [hh] at et
              refine q87 (i := 0) (R := some [v]) hm (by rw [hG' 1 (by decide) (by decide)]; exact em) (txc G hG') (by rw [Gt]; exact y17) (mkc G hG' 0 (by decide)) (mkc G hG' 1 (by decide)) pl1 p1 (cwd G hG' _ p1) hr (fun hn => by cases hn) (fun s' hs' H hH h1 => ?_)
              have es : s' = [v] := (Option.some.inj hs').symm
              rw [es] at h1
              refine am_ifn (by decide) ?_
              rw [h1]
              exact hR v (ht.trans et) H (fun c c1 c2 => (hH c c1 c2).trans (hG' c c1 c2))
        · refine am_ifn tt (next G hG' ?_)
          have hh : hld X (wenv wd) c = none := by
            unfold hld
            rw [if_pos (Classical.byContradiction (fun q => tt ((hRt2.2 s hs).mpr q)))]
          rw [hh] at et
          exact ht.trans et
    · rw [if_neg ck] at et
      refine am_ifn (fun q => ck ((nb_inj (by omega) (by omega)).mp q)) ?_
      exact next J hJ (ht.trans et)
theorem q112 {T : Nat → Nat × Nat} {r : Nat → Nat → Option Nat} {I : am_I} {X : LWX} {t m kind : Nat} {wd : Nat → Int} {x3 : Int32} {K : Int32 → am_I → Prop} (hm : m ≤ 8) (em : I 1 10 = nI m) (hX : okX X) (hL : LAWc T r I t X) (hk : kind ≤ 3) (hw : ∀ w, w < 10 → -1000000000 ≤ wd w ∧ wd w ≤ 1000000000 ∧ I 25 w = Int32.ofInt (wd w)) (hK : ∀ J, (∀ c, c ≠ 24 → c ≠ 26 → J c = I c) → K (match tel X (wenv wd) kind X.1 with
    | none => x3
    | some v => cl9 (Int32.ofInt v)) J) : w_112s t (nI kind) x3 T r I K := by
  unfold w_112s
  have n12 := hX.1
  have et : (am_ts T t).1 = 11 ∧ I t 2 = nI X.1 := by
    obtain ⟨c0, c3, c5, n, C, mk, y1, y2, y3, y4, y5, y6, y7, y8, y9, y10, y11, y12, y13, y14, y15, y16, y17, y18, _⟩ := hL
    exact ⟨y5, y18⟩
  refine ⟨et.1, X.1 + 1, l112 hm em hX hL hk hw (fun hn J u hJ => ?_) (fun v hv J hJ => ?_) X.1 I _ (Nat.le_refl _) (by rw [et.2, Int32.add_neg_eq_sub]) (fun c _ _ => rfl) rfl⟩
  · have k := hK J hJ
    rw [hn] at k
    exact k
  · have k := hK J hJ
    rw [hv] at k
    exact k
