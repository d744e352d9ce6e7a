/-! orders: sums and tests are reckoned, by the class -/
/-- the draft that was read -/
def DC (l : List CLD) (s : Nat) (M : Nat → Nat × Nat) (mk : Nat → Nat → Nat) (I : am_I) : Prop := s ≤ 400 ∧ I 16 1 = nI s ∧ (∀ k, k < s → I 17 k = nI ((M k).1 + 16 * (M k).2)) ∧ TXd false l s M mk I
theorem DC_cg {l : List CLD} {s : Nat} {M : Nat → Nat × Nat} {mk : Nat → Nat → Nat} {I J : am_I} (h : DC l s M mk I) (e : ∀ c, 16 ≤ c → c ≤ 20 → J c = I c) : DC l s M mk J := by
  obtain ⟨h1, h2, h3, t1, t2, t3, t4⟩ := h
  refine ⟨h1, by rw [e 16 (by decide) (by decide)]; exact h2, fun k hk => by rw [e 17 (by decide) (by decide)]; exact h3 k hk, t1, by rw [e 16 (by decide) (by decide)]; exact t2, fun c cl ec => ?_, t4⟩
  obtain ⟨a1, a2, a3, a4, a5, a6, a7⟩ := t3 c cl ec
  exact ⟨a1, a2, a3, by rw [e 18 (by decide) (by decide)]; exact a4, by rw [e 19 (by decide) (by decide)]; exact a5, fun i hi => by rw [e 20 (by decide) (by decide)]; exact a6 i hi, a7⟩
/-- words of orders, by the class -/
def WDc (e : Nat → Nat → Int) (m : Nat) (I : am_I) : Prop := (∀ w, w = 7 ∨ (10 ≤ w ∧ w < 14) → -1000000000 ≤ e 1 w ∧ e 1 w ≤ 1000000000 ∧ I 25 w = Int32.ofInt (e 1 w)) ∧ (∀ p, p < 8 → e 2 p = (if m ≤ p then -1 else (I 6 p).toInt) ∧ (p < m → ∃ x, x < 10 ∧ I 6 p = nI x)) ∧ ∀ w, w < 96 → e 3 w = (if m ≤ w / 12 then -1 else (bi (Int32.toNatClampNeg (I 7 (w / 12))) (w % 12) : Int)) ∧ (w / 12 < m → ∃ x, x < 4096 ∧ I 7 (w / 12) = nI x)
theorem cwd_of {e : Nat → Nat → Int} {m k : Nat} {I : am_I} {M : Nat → Nat × Nat} (h : WDc e m I) (o : okM false k (M k)) : CWd I M e m k := by
  obtain ⟨o1, o2, o3, o4, o5, o6⟩ := o
  refine ⟨o1, o2, fun z => ?_, fun z => ?_, fun z => ?_⟩
  · have w := (o3 z).2 rfl
    obtain ⟨a1, a2, a3⟩ := h.1 _ w
    exact ⟨by omega, a1, a2, a3⟩
  · have w := (o4 z).2
    obtain ⟨a1, a2⟩ := h.2.1 _ w
    exact ⟨w, a1, a2⟩
  · have w := (o5 z).2
    obtain ⟨a1, a2⟩ := h.2.2 _ w
    exact ⟨w, a1, a2⟩
theorem mk_of {T : Nat → Nat × Nat} {r : Nat → Nat → Option Nat} {l : List CLD} {s c i : Nat} {M : Nat → Nat × Nat} {mk : Nat → Nat → Nat} {I : am_I} {cl : CLD} (h : DC l s M mk I) (hc : l[c]? = some cl) (hi : i < 5) : MKc T r I 16 c i (mk c i) := by
  have cl' := gixl hc
  have l12 := h.2.2.2.1
  refine ⟨rfl, 20, rfl, rfl, ?_, ?_, ((h.2.2.2.2.2.1 c cl hc).2.2.2.2.2.1 i hi).1⟩
  · show c * 5 + i < 60
    omega
  · show 60 ≤ 60
    decide
/-- a sum or a test that is there -/
theorem w87o {T : Nat → Nat × Nat} {r : Nat → Nat → Option Nat} {l : List CLD} {s c i m : Nat} {M : Nat → Nat × Nat} {mk : Nat → Nat → Nat} {I : am_I} {cl : CLD} {e : Nat → Nat → Int} {f : FN} {K : Int32 → am_I → Prop} {x3 : Int32} (hm : m ≤ 8) (em : I 1 10 = nI m) (h : DC l s M mk I) (w : WDc e m I) (hc : l[c]? = some cl) (hi : i < 4) (ex : x3 = nI i) (p : PC false M (mk c i) (mk c (i + 1)) f 20) (k0 : f e = none → ∀ J, (∀ c, c ≠ 24 → c ≠ 26 → J c = I c) → K 0 J) (k1 : ∀ v, f e = some v → ∀ J, (∀ c, c ≠ 24 → c ≠ 26 → J c = I c) → J 24 1 = Int32.ofInt v → K 1 J) : w_87 16 (nI c) x3 T r I K := by
  rw [ex]
  obtain ⟨s4, h1, h2, ht⟩ := id h
  have b2 := ((ht.2.2.1 c cl hc).2.2.2.2.2.1 (i + 1) (by omega)).2
  obtain ⟨R, r1, r2, r3⟩ := Den_s (M := 32) (p.2.2 M (fun _ _ _ => rfl)) (by decide) e
  refine q87 (m := m) (C := M) (e := e) (c0 := 17) (n := s) hm em ⟨rfl, rfl, rfl, s4, s4, by decide, by decide, h2⟩ h1 (mk_of h hc (by omega)) (mk_of h hc (by omega)) (Nat.le_of_lt p.1) b2 (fun k hk => cwd_of w (ht.2.2.2 k (by omega))) r1 (fun z => k0 (r3 z)) (fun s' hs' J j1 j2 => ?_)
  obtain ⟨v, v1, v2⟩ := r2 s' hs'
  rw [v1] at j2
  exact k1 v v2 J j1 j2
/-- a test that is not there: it holds -/
theorem w87n {T : Nat → Nat × Nat} {r : Nat → Nat → Option Nat} {l : List CLD} {s c i m : Nat} {M : Nat → Nat × Nat} {mk : Nat → Nat → Nat} {I : am_I} {cl : CLD} {e : Nat → Nat → Int} {K : Int32 → am_I → Prop} {x3 : Int32} (hm : m ≤ 8) (em : I 1 10 = nI m) (h : DC l s M mk I) (w : WDc e m I) (hc : l[c]? = some cl) (hi : i < 4) (ex : x3 = nI i) (p : mk c (i + 1) = mk c i) (k1 : ∀ J, (∀ c, c ≠ 24 → c ≠ 26 → J c = I c) → J 24 1 = 1 → K 1 J) : w_87 16 (nI c) x3 T r I K := by
  rw [ex]
  obtain ⟨s4, h1, h2, ht⟩ := id h
  have b2 := ((ht.2.2.1 c cl hc).2.2.2.2.2.1 (i + 1) (by omega)).2
  refine q87 (m := m) (C := M) (e := e) (c0 := 17) (n := s) (R := some []) hm em ⟨rfl, rfl, rfl, s4, s4, by decide, by decide, h2⟩ h1 (mk_of h hc (by omega)) (mk_of h hc (by omega)) (Nat.le_of_eq p.symm) b2 (fun k hk => cwd_of w (ht.2.2.2 k (by omega))) (by rw [p]; exact run_nil) (fun z => by cases z) (fun s' hs' J j1 j2 => ?_)
  injection hs' with hs'
  rw [← hs'] at j2
  exact k1 J j1 j2
