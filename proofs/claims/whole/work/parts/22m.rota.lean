/-! rota: what holds behind it -/
theorem StR_rot {I J : am_I} {L L' : am_J} (h : StR I L) (e : ∀ c, 1 ≤ c → c < 99 → c ≠ 24 → c ≠ 25 → c ≠ 26 → J c = I c) (e0 : ∀ k, k ≠ 10 → J 0 k = I 0 k) (eL : ∀ c, c < 99 → L' c = L c) : StR J L' := by
  have h' : Inv (fun _ _ _ _ _ => True) 0 (fun _ => (0, 0)) (fun _ _ => none) (fun c => if c = 0 then I 0 else if c < 99 then J c else I c) L' := inv_scr2 (D := fun _ _ _ _ _ => True) (fun _ _ _ _ _ _ _ _ => trivial) (fun _ _ _ _ _ _ _ => trivial) (I := I) (L := L) ⟨h, trivial⟩ (fun c hc => by
    show (if c = 0 then I 0 else if c < 99 then J c else I c) = I c
    by_cases z : c = 0
    · subst z; rw [if_pos rfl]
    · rw [if_neg z]
      by_cases y : c < 99
      · rw [if_pos y]; exact e c (by omega) y (by omega) (by omega) (by omega)
      · rw [if_neg y]) (fun i _ => by
    show J 66 i = I 66 i
    rw [e 66 (by decide) (by decide) (by decide) (by decide) (by decide)]) (fun c hc => eL c (by omega))
  obtain ⟨⟨h1, h2, h3, h4, h5, h6, h7, h8, h9, f1, f2, f3, f4, f5⟩, -⟩ := h'
  obtain ⟨a1, a2, a3, a4, a5, a6, a7⟩ := h9
  exact ⟨h1, h2, h3, h4, h5, h6, h7, h8, ⟨(e0 12 (by decide)).trans a1, a2, a3, a4, a5, a6, (e0 13 (by decide)).trans a7⟩, f1, f2, f3, f4, f5⟩
def apq (N q : Nat) (T T' : Nat → Nat × Nat) (r r' : Nat → Nat → Option Nat) (I J : am_I) : Prop := ∀ c, 99 ≤ c → c < N → (c < q ∨ q + 10 ≤ c) → T' c = T c ∧ (∀ j, r' c j = r c j) ∧ J c = I c
theorem okT_q {N q t : Nat} {r : Nat → Nat → Option Nat} (h : okT 10 N r t) (hs : r 0 9 = some q ∨ N ≤ q) : 99 ≤ t ∧ t + 5 ≤ N ∧ (t + 5 ≤ q ∨ q + 10 ≤ t) := by
  obtain ⟨a, b, _, d⟩ := h
  refine ⟨a, b, ?_⟩
  rcases hs with z | z
  · exact d q z
  · exact Or.inl (by omega)
theorem okT_mv {N N' q t : Nat} {r r' : Nat → Nat → Option Nat} (h : okT 10 N r t) (hN : N ≤ N') (hs : r 0 9 = some q ∨ N ≤ q) (hq : r' 0 9 = some q) (e13 : ∀ k, k < 2 → r' 13 k = r 13 k) : okT 10 N' r' t := by
  have k := okT_q h hs
  obtain ⟨a, b, c, _⟩ := h
  refine ⟨a, by omega, fun z p hz hp => c z p hz (by rw [← e13 z hz]; exact hp), fun q' hq' => ?_⟩
  rw [hq] at hq'
  rw [← Option.some.inj hq']
  exact k.2.2
theorem DSl_mv {N N' q a a' : Nat} {T T' : Nat → Nat × Nat} {r r' : Nat → Nat → Option Nat} {I J : am_I} (h : DSl 10 N T r a) (hN : N ≤ N') (e : apq N q T T' r r' I J) (hs : r 0 9 = some q ∨ N ≤ q) (hq : r' 0 9 = some q) (e13 : ∀ k, k < 2 → r' 13 k = r 13 k) (ea : ∀ j, r' a' j = r a j) : DSl 10 N' T' r' a' := by
  intro j t hj ht
  rw [ea] at ht
  obtain ⟨h1, h2⟩ := h j t hj ht
  obtain ⟨a1, a2, a3⟩ := okT_q h1 hs
  refine ⟨okT_mv h1 hN hs hq e13, ?_⟩
  rw [(e t a1 (by omega) (by omega)).1]
  exact h2
theorem DLa_mv {N q a a' : Nat} {T T' : Nat → Nat × Nat} {r r' : Nat → Nat → Option Nat} {I J : am_I} {x : Int32} {R : Nat → Int32} (hd : DSl 10 N T r a) (h : DLa T r I a x R) (e : apq N q T T' r r' I J) (hs : r 0 9 = some q ∨ N ≤ q) (ea : ∀ j, r' a' j = r a j) : DLa T' r' J a' x R := by
  intro l hl hx k hk
  obtain ⟨t, X, h1, h2, h3, h4⟩ := h l hl hx k hk
  obtain ⟨a1, a2, a3⟩ := okT_q (hd k t (by omega) h1).1 hs
  exact ⟨t, X, by rw [ea]; exact h1, h2, LAWd_cg h3 (fun c c1 c2 => e c (by omega) (by omega) (by omega)), h4⟩
theorem DIm_mv {N N' q k : Nat} {T T' : Nat → Nat × Nat} {r r' : Nat → Nat → Option Nat} {I J : am_I} (hk : k < 2) (h : DIm 10 N T r I k) (hN : N ≤ N') (e : apq N q T T' r r' I J) (hs : r 0 9 = some q ∨ N ≤ q) (hpq : ∀ p, r 13 k = some p → r 0 9 = some q → p + 12 ≤ q ∨ q + 10 ≤ p) (hq : r' 0 9 = some q) (e13 : ∀ k, k < 2 → r' 13 k = r 13 k) (e69 : J 69 = I 69) (e70 : J 70 = I 70) : DIm 10 N' T' r' J k := by
  rcases h with ⟨a1, a2⟩ | ⟨p, a1, a2, a3, a4, a5, a6, a7, a8, a9, a10, a11, a12⟩
  · exact Or.inl ⟨by rw [e13 k hk]; exact a1, by rw [e70]; exact a2⟩
  · have sp : p + 12 ≤ q ∨ q + 10 ≤ p := by
      rcases hs with z | z
      · exact hpq p a1 z
      · exact Or.inl (by omega)
    have ep : ∀ i, i < 12 → T' (p + i) = T (p + i) ∧ (∀ j, r' (p + i) j = r (p + i) j) ∧ J (p + i) = I (p + i) := fun i hi => e (p + i) (by omega) (by omega) (by omega)
    have p0 := ep 0 (by decide)
    have er : imR J k = imR I k := by
      unfold imR
      rw [e69]
    refine Or.inr ⟨p, by rw [e13 k hk]; exact a1, by rw [e70]; exact a2, a3, by omega, PSN_cg a5 a3 (fun c c1 c2 => (e c (by omega) (by omega) (by omega)).1) (fun j => p0.2.1 j), DSl_mv a6 hN e hs hq e13 (fun j => (ep 10 (by decide)).2.1 j), ?_, ?_, ?_, ?_, ?_, ?_⟩
    · rw [er, show J p = I p from p0.2.2, (ep 1 (by decide)).2.2, (ep 2 (by decide)).2.2]; exact a7
    · rw [er, show J p = I p from p0.2.2, (ep 3 (by decide)).2.2, (ep 4 (by decide)).2.2, (ep 5 (by decide)).2.2, (ep 6 (by decide)).2.2, (ep 7 (by decide)).2.2]; exact a8
    · rw [er, show J p = I p from p0.2.2, (ep 8 (by decide)).2.2, (ep 9 (by decide)).2.2]; exact a9
    · rw [er, show J p = I p from p0.2.2]; exact a10
    · rw [er, show J p = I p from p0.2.2, (ep 11 (by decide)).2.2]; exact a11
    · rw [er, show J p = I p from p0.2.2]
      exact DLa_mv a6 a12 e hs (fun j => (ep 10 (by decide)).2.1 j)
theorem DD_mv {N N' q : Nat} {T T' : Nat → Nat × Nat} {r r' : Nat → Nat → Option Nat} {I J : am_I} {L L' : am_J} (h : DD 10 RTT PLL N T r I L) (hN : N ≤ N') (e : apq N q T T' r r' I J) (hs : r 0 9 = some q ∨ N ≤ q) (hq : r' 0 9 = some q) (q99 : 99 ≤ q) (qN : q + 10 ≤ N') (e11 : ∀ j, r' 11 j = r 11 j) (e13 : ∀ k, k < 2 → r' 13 k = r 13 k) (e15 : J 1 15 = I 1 15) (e68 : J 68 = I 68) (e69 : J 69 = I 69) (e70 : J 70 = I 70) (rt : RTT T' r' J q) (pl : J 0 10 = 0 ∨ PLL T' r' J q) : DD 10 RTT PLL N' T' r' J L' := by
  obtain ⟨h1, h2, h3, h4, h5, h6, h7, h8, h9⟩ := h
  refine ⟨by omega, DSl_mv h2 hN e hs hq e13 e11, ?_, DIm_mv (by decide) h4 hN e hs (fun p hp h0 => h7 0 p q (by decide) hp h0) hq e13 e69 e70, DIm_mv (by decide) h5 hN e hs (fun p hp h0 => h7 1 p q (by decide) hp h0) hq e13 e69 e70, ?_, ?_, ?_, ?_⟩
  · rw [e15, e68]
    exact DLa_mv h2 h3 e hs e11
  · intro p p' hp hp'
    rw [e13 0 (by decide)] at hp
    rw [e13 1 (by decide)] at hp'
    exact h6 p p' hp hp'
  · intro k p q' hk hp hq'
    rw [hq] at hq'
    have e := Option.some.inj hq'
    subst e
    rw [e13 k hk] at hp
    rcases hs with z | z
    · exact h7 k p q hk hp z
    · have im : ∀ k, DIm 10 N T r I k → r 13 k = some p → p + 12 ≤ N := by
        intro k hk hp
        rcases hk with ⟨a, _⟩ | ⟨p', a, _, _, b, _⟩
        · rw [a] at hp; exact absurd hp (by simp)
        · rw [a] at hp
          rw [← Option.some.inj hp]
          exact b
      left
      rcases (by omega : k = 0 ∨ k = 1) with rfl | rfl
      · have := im 0 h4 hp; omega
      · have := im 1 h5 hp; omega
  · intro hn
    rw [hq] at hn
    exact absurd hn (by simp)
  · intro q' hq'
    rw [hq] at hq'
    have e := Option.some.inj hq'
    subst e
    exact ⟨q99, qN, rt, pl⟩
