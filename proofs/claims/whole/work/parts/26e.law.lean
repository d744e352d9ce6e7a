/-! law: what holds behind it -/
theorem lawc_of {l : List CLD} {M : Nat → Nat × Nat} {mk : Nat → Nat → Nat} {s N : Nat} {T T' : Nat → Nat × Nat} {r r' : Nat → Nat → Option Nat} {G J : am_I} {L L' : am_J} (hN : 99 ≤ N) (nt : ntx N s l.length T T' r r' G J L L') (hs : s ≤ 400) (cd : ∀ k, k < s → G 17 k = nI ((M k).1 + 16 * (M k).2)) (t : TXd true l s M mk G) (ok : ∀ cl, cl ∈ l → okCl cl) : LAWd T' r' J N (lwx l) := by
  obtain ⟨n1, n2, n3, n4, n5, n6, n7, n8, n9, n10, n11, n12, n13⟩ := nt
  obtain ⟨t1, t2, t3, t4⟩ := t
  refine ⟨⟨N + 1, N + 2, N + 4, s, M, mk, hN, by omega, by omega, by omega, by rw [am_ts_hi hN, n2], by rw [am_rs_hi hN]; exact n6, by rw [am_rs_hi hN]; exact n7, by rw [am_rs_hi hN]; exact n8, by rw [am_ts_hi (by omega), n3], by rw [am_ts_hi (by omega), n4], by rw [am_ts_hi (by omega), n5], by rw [am_ts_hi (by omega), n3]; exact Nat.le_refl _, by rw [am_ts_hi (by omega), n4]; exact Nat.le_refl _, ?_, ?_, hs, n9, n10, fun k hk => ⟨(n11 k hk).trans (cd k hk), okC_of (t4 k hk)⟩, fun c hc => ?_, fun c i hc hi => ?_, fun c hc => ?_⟩, by rw [am_rs_hi hN]; exact n6, by rw [am_rs_hi hN]; exact n7, by rw [am_rs_hi hN]; exact n8⟩
  · rw [am_ts_hi (by omega), n5]
    show 5 * l.length ≤ l.length * 5
    omega
  · rw [am_ts_hi (by omega), n5]
    show l.length * 5 ≤ 60
    omega
  · have hc : c < l.length := hc
    obtain ⟨cl, e⟩ := gse hc
    obtain ⟨a1, a2, a3, a4, a5, a6, a7⟩ := t3 c cl e
    rw [n12 c hc, a4]
    show nI cl.1 = nI (cG l c).1
    rw [cG_e e]
  · have hc : c < l.length := hc
    obtain ⟨cl, e⟩ := gse hc
    obtain ⟨a1, a2, a3, a4, a5, a6, a7⟩ := t3 c cl e
    rw [n13 (c * 5 + i) (by omega)]
    exact (a6 i hi).1
  · have hc : c < l.length := hc
    obtain ⟨cl, e⟩ := gse hc
    obtain ⟨a1, a2, a3, a4, a5, a6, a7⟩ := t3 c cl e
    exact pcs_of e (ok cl (List.mem_of_getElem? e)) a7 (fun i hi => (a6 i hi).2) (by decide)
/-- all that lay below N lies there -/
def aN (N : Nat) (T T' : Nat → Nat × Nat) (r r' : Nat → Nat → Option Nat) (I J : am_I) : Prop := ∀ c, 99 ≤ c → c < N → T' c = T c ∧ (∀ j, r' c j = r c j) ∧ J c = I c
theorem okT_nw {N N' t : Nat} {r r' : Nat → Nat → Option Nat} (h : okT 10 N r t) (hN : N ≤ N') (e13 : ∀ j, r' 13 j = r 13 j) (e09 : r' 0 9 = r 0 9) : okT 10 N' r' t := by
  obtain ⟨a, b, c, d⟩ := h
  exact ⟨a, by omega, fun k p hk hp => c k p hk (by rw [← e13]; exact hp), fun q hq => d q (by rw [← e09]; exact hq)⟩
theorem DSl_nw {N N' a : Nat} {T T' : Nat → Nat × Nat} {r r' : Nat → Nat → Option Nat} {I J : am_I} (h : DSl 10 N T r a) (hN : N ≤ N') (e : aN N T T' r r' I J) (e13 : ∀ j, r' 13 j = r 13 j) (e09 : r' 0 9 = r 0 9) (ea : ∀ j, r' a j = r a j) : DSl 10 N' T' r' a := by
  intro j t hj ht
  rw [ea] at ht
  obtain ⟨h1, h2⟩ := h j t hj ht
  have a1 := h1.1
  have a2 := h1.2.1
  exact ⟨okT_nw h1 hN e13 e09, by rw [(e t a1 (by omega)).1]; exact h2⟩
theorem DLa_nw {N a : Nat} {T T' : Nat → Nat × Nat} {r r' : Nat → Nat → Option Nat} {I J : am_I} {x : Int32} {R : Nat → Int32} (hd : DSl 10 N T r a) (h : DLa T r I a x R) (e : aN N T T' r r' I J) (ea : ∀ j, r' a j = r a j) : DLa T' r' J a x R := by
  intro l hl hx k hk
  obtain ⟨t, X, h1, h2, h3, h4⟩ := h l hl hx k hk
  have o := (hd k t (by omega) h1).1
  have a1 := o.1
  have a2 := o.2.1
  exact ⟨t, X, by rw [ea]; exact h1, h2, LAWd_cg h3 (fun c c1 c2 => e c (by omega) (by omega)), h4⟩
theorem DIm_nw {N N' k : Nat} {T T' : Nat → Nat × Nat} {r r' : Nat → Nat → Option Nat} {I J : am_I} (h : DIm 10 N T r I k) (hN : N ≤ N') (e : aN N T T' r r' I J) (e13 : ∀ j, r' 13 j = r 13 j) (e09 : r' 0 9 = r 0 9) (e69 : J 69 = I 69) (e70 : J 70 = I 70) : DIm 10 N' T' r' J k := by
  rcases h with ⟨a1, a2⟩ | ⟨p, a1, a2, a3, a4, a5, a6, a7, a8, a9, a10, a11, a12⟩
  · exact Or.inl ⟨by rw [e13 k]; exact a1, by rw [e70]; exact a2⟩
  · have ep : ∀ i, i < 12 → T' (p + i) = T (p + i) ∧ (∀ j, r' (p + i) j = r (p + i) j) ∧ J (p + i) = I (p + i) := fun i hi => e (p + i) (by omega) (by omega)
    have p0 := ep 0 (by decide)
    have er : imR J k = imR I k := by
      unfold imR
      rw [e69]
    refine Or.inr ⟨p, by rw [e13 k]; exact a1, by rw [e70]; exact a2, a3, by omega, PSN_cg a5 a3 (fun c c1 c2 => (e c (by omega) (by omega)).1) (fun j => p0.2.1 j), DSl_nw a6 hN e e13 e09 (fun j => (ep 10 (by decide)).2.1 j), ?_, ?_, ?_, ?_, ?_, ?_⟩
    · rw [er, show J p = I p from p0.2.2, (ep 1 (by decide)).2.2, (ep 2 (by decide)).2.2]; exact a7
    · rw [er, show J p = I p from p0.2.2, (ep 3 (by decide)).2.2, (ep 4 (by decide)).2.2, (ep 5 (by decide)).2.2, (ep 6 (by decide)).2.2, (ep 7 (by decide)).2.2]; exact a8
    · rw [er, show J p = I p from p0.2.2, (ep 8 (by decide)).2.2, (ep 9 (by decide)).2.2]; exact a9
    · rw [er, show J p = I p from p0.2.2]; exact a10
    · rw [er, show J p = I p from p0.2.2, (ep 11 (by decide)).2.2]; exact a11
    · rw [er, show J p = I p from p0.2.2]
      exact DLa_nw a6 a12 e (fun j => (ep 10 (by decide)).2.1 j)
/-- what is said of cells from 99 on, behind a new law -/
theorem DD_law {N k : Nat} {T T' : Nat → Nat × Nat} {r r' : Nat → Nat → Option Nat} {I F : am_I} {L H : am_J} {X : LWX} (h : DR N T r I L) (hk : k < 6) (e15 : I 1 15 = nI k) (e : aN N T T' r r' I F) (h11 : ∀ j, j ≠ k → r' 11 j = r 11 j) (h11k : r' 11 k = some N) (e13 : ∀ j, r' 13 j = r 13 j) (e09 : r' 0 9 = r 0 9) (hT : (T' N).1 = 11) (hX : okX X) (hc : LAWd T' r' F N X) (hr : LAWr (F 68) (110 + 900 * k) X) (m15 : F 1 15 = nI (k + 1)) (m68 : ∀ i, i ≠ 3 → (i < 111 + 900 * k ∨ 1010 + 900 * k ≤ i) → F 68 i = I 68 i) (m69 : F 69 = I 69) (m70 : F 70 = I 70) (m010 : F 0 10 = 0) : DR (N + 5) T' r' F H := by
  obtain ⟨h1, h2, h3, h4, h5, h6, h7, h8, h9⟩ := h
  have im : ∀ k p, k < 2 → r 13 k = some p → p + 12 ≤ N := by
    intro k p hk hp
    have go : ∀ k, DIm 10 N T r I k → r 13 k = some p → p + 12 ≤ N := by
      intro k hk hp
      rcases hk with ⟨a, _⟩ | ⟨p', a, _, _, b, _⟩
      · rw [a] at hp; exact absurd hp (by simp)
      · rw [a] at hp
        rw [← Option.some.inj hp]
        exact b
    rcases (by omega : k = 0 ∨ k = 1) with rfl | rfl
    · exact go 0 h4 hp
    · exact go 1 h5 hp
  have rq : ∀ q, r 0 9 = some q → q + 10 ≤ N := fun q hq => (h9 q hq).2.1
  refine ⟨by omega, fun j t hj ht => ?_, fun l hl hx c hc' => ?_, DIm_nw h4 (by omega) e e13 e09 m69 m70, DIm_nw h5 (by omega) e e13 e09 m69 m70, ?_, ?_, fun _ => m010, fun q hq => ?_⟩
  · by_cases ej : j = k
    · rw [ej, h11k] at ht
      rw [← Option.some.inj ht]
      exact ⟨⟨h1, Nat.le_refl _, fun k p hk hp => Or.inr (im k p hk (by rw [← e13]; exact hp)), fun q hq => Or.inr (rq q (by rw [← e09]; exact hq))⟩, hT⟩
    · rw [h11 j ej] at ht
      obtain ⟨a1, a2⟩ := h2 j t hj ht
      have b1' := a1.1
      have b2 := a1.2.1
      exact ⟨okT_nw a1 (by omega) e13 e09, by rw [(e t b1' (by omega)).1]; exact a2⟩
  · rw [m15] at hx
    have el : k + 1 = l := (nb_inj (by omega) (by omega)).mp hx
    by_cases ec : c = k
    · rw [ec]
      exact ⟨N, X, h11k, hX, hc, hr⟩
    · obtain ⟨t, X', g1, g2, g3, g4⟩ := h3 k (by omega) e15 c (by omega)
      have o := (h2 c t (by omega) g1).1
      have a1 := o.1
      have a2 := o.2.1
      exact ⟨t, X', by rw [h11 c ec]; exact g1, g2, LAWd_cg g3 (fun a c1 c2 => e a (by omega) (by omega)), LAWr_cg g4 g2 (fun i i1 i2 => m68 i (by omega) (by omega))⟩
  · intro p p' hp hp'
    rw [e13] at hp hp'
    exact h6 p p' hp hp'
  · intro k p q hk hp hq
    rw [e13] at hp
    rw [e09] at hq
    exact h7 k p q hk hp hq
  · rw [e09] at hq
    obtain ⟨a1, a2, a3, a4⟩ := h9 q hq
    exact ⟨a1, by omega, RTT_fr _ _ _ _ _ _ q a1 (fun c c1 c2 => e c (by omega) (by omega)) a3, Or.inl m010⟩
