/-! words, the law in force, what it tells of one: both sides -/
def wdp (R : Nat → Int32) (p : Nat) (wt bf ot : Int) (w : Nat) : Int := if w = 0 then (p : Int) else if w = 1 then (R (26 + p)).toInt else if w = 2 then (R (34 + p)).toInt else if w = 3 then (pc (Int32.toNatClampNeg (R (18 + p))) : Int) else if w = 4 then wt else if w = 5 then bf else if w = 6 then ot else if w = 7 then (R 5).toInt else if w = 8 then (R 7).toInt else (R 8).toInt
/-- one's numbers and the terms, on both sides -/
def PWd (I : am_I) (m p : Nat) : Prop := m ≤ 8 ∧ p < m ∧ I 1 10 = nI m ∧ I 68 1 = nI m ∧ I 66 20 = 0 ∧ ∃ y w k a o d, 1 ≤ y ∧ y ≤ 99 ∧ w ≤ 9 ∧ k < 4096 ∧ a ≤ 9999 ∧ o ≤ 10 ∧ d ≤ 9 ∧ I 4 p = nI y ∧ I 5 p = nI w ∧ I 7 p = nI k ∧ I 12 0 = nI a ∧ I 12 2 = nI o ∧ I 12 3 = nI d ∧ I 68 (26 + p) = nI y ∧ I 68 (34 + p) = nI w ∧ I 68 (18 + p) = nI k ∧ I 68 5 = nI a ∧ I 68 7 = nI o ∧ I 68 8 = nI d
theorem PWd_cg {I J : am_I} {m p : Nat} (h : PWd I m p) (h1 : J 1 = I 1) (h4 : J 4 = I 4) (h5 : J 5 = I 5) (h7 : J 7 = I 7) (h12 : J 12 = I 12) (h68 : J 68 = I 68) (h20 : J 66 20 = I 66 20) : PWd J m p := by
  unfold PWd at h ⊢
  rw [h1, h4, h5, h7, h12, h68, h20]
  exact h
theorem PWd_of {I : am_I} {L : am_J} (h : StR I L) {m p : Nat} (e : I 1 10 = nI m) (hm : m ≤ 8) (hp : p < m) : PWd I m p := by
  obtain ⟨m', v, hm', hv, e1, e2, e3, hpp⟩ := h.2.1
  have em : m' = m := by
    rw [e] at e1
    exact ((nb_inj (by omega) (by omega)).mp e1).symm
  subst em
  obtain ⟨a, b, c, d, e', t1, t2, t3, t4, t5, t6, q1, q2, q3, q4, q5, s1, s2, s3, s4, s5⟩ := h.2.2.2.2.1
  obtain ⟨_, y, w, pl, k, t, b1, b2, b3, b4, b5, b6, u1, u2, u3, u4, u5, v1, v2, v3, v4, v5⟩ := hpp p hp
  exact ⟨hm, hp, e1, e2, h.2.2.2.2.2.2.2.2.2.2.2.1, y, w, k, a, c, d, b1, b2, b3, b5, t1, t4, t5, u1, u2, u4, q1, q3, q4, v1, v2, v4, s1, s3, s4⟩
def smI (x : Int32) (z : Int) : Prop := x = Int32.ofInt z ∧ -100 ≤ z ∧ z ≤ 100
theorem q110 {I : am_I} {m p : Nat} {x2 x3 x4 : Int32} {wt bf ot : Int} {K : am_I → Prop} (h : PWd I m p) (h2 : smI x2 wt) (h3 : smI x3 bf) (h4 : smI x4 ot) (hK : ∀ J, (∀ c, c ≠ 25 → J c = I c) → (∀ w, w < 10 → -1000000000 ≤ wdp (I 68) p wt bf ot w ∧ wdp (I 68) p wt bf ot w ≤ 1000000000 ∧ J 25 w = Int32.ofInt (wdp (I 68) p wt bf ot w)) → K J) : w_110 (nI p) x2 x3 x4 I K := by
  obtain ⟨hm, hp, e1, e2, e20, y, w, k, a, o, d, y1, y2, w1, k1, a1, o1, d1, c4, c5, c7, c0, c2, c3, r26, r34, r18, r5, r7, r8⟩ := h
  unfold w_110
  have g8 : ¬ (nI p < 0 ∨ 8 ≤ Int32.toNatClampNeg (nI p)) := nb_gd (by omega) (by decide)
  refine ⟨g8, g8, g8, hK _ (fun c hc => ?_) (fun j hj => ?_)⟩
  · rw [uu_h hc, uu_h hc, uu_h hc, uu_h hc, uu_h hc, uu_h hc, uu_h hc, uu_h hc, uu_h hc, uu_h hc]
  · rw [nI_clamp (by omega : p < 2 ^ 31), c4, c5, c7, c0, c2, c3, q111 k1]
    unfold wdp
    rw [r26, r34, r18, r5, r7, r8, nI_toInt (by omega), nI_toInt (by omega), nI_clamp (by omega), nI_toInt (by omega), nI_toInt (by omega), nI_toInt (by omega)]
    have pl := pc_le k
    obtain ⟨e2', b2, b2'⟩ := h2
    obtain ⟨e3', b3, b3'⟩ := h3
    obtain ⟨e4', b4, b4'⟩ := h4
    rcases (by omega : j = 0 ∨ j = 1 ∨ j = 2 ∨ j = 3 ∨ j = 4 ∨ j = 5 ∨ j = 6 ∨ j = 7 ∨ j = 8 ∨ j = 9) with rfl | rfl | rfl | rfl | rfl | rfl | rfl | rfl | rfl | rfl
    · exact ⟨by show -1000000000 ≤ (p : Int); omega, by show (p : Int) ≤ 1000000000; omega, rfl⟩
    · exact ⟨by show -1000000000 ≤ (y : Int); omega, by show (y : Int) ≤ 1000000000; omega, rfl⟩
    · exact ⟨by show -1000000000 ≤ (w : Int); omega, by show (w : Int) ≤ 1000000000; omega, rfl⟩
    · exact ⟨by show -1000000000 ≤ (pc k : Int); omega, by show (pc k : Int) ≤ 1000000000; omega, rfl⟩
    · exact ⟨by show -1000000000 ≤ wt; omega, by show wt ≤ 1000000000; omega, e2'⟩
    · exact ⟨by show -1000000000 ≤ bf; omega, by show bf ≤ 1000000000; omega, e3'⟩
    · exact ⟨by show -1000000000 ≤ ot; omega, by show ot ≤ 1000000000; omega, e4'⟩
    · exact ⟨by show -1000000000 ≤ (a : Int); omega, by show (a : Int) ≤ 1000000000; omega, rfl⟩
    · exact ⟨by show -1000000000 ≤ (o : Int); omega, by show (o : Int) ≤ 1000000000; omega, rfl⟩
    · exact ⟨by show -1000000000 ≤ (d : Int); omega, by show (d : Int) ≤ 1000000000; omega, rfl⟩
/-- a law or none, for the class and for the reference -/
def LOc (T : Nat → Nat × Nat) (r : Nat → Nat → Option Nat) (I : am_I) (o : Option Nat) (fx : Option LWX) : Prop := (o = none ∧ fx = none) ∨ ∃ t X, o = some t ∧ fx = some X ∧ okX X ∧ LAWc T r I t X
def LOr (R : Nat → Int32) (which : Int32) (fx : Option LWX) : Prop := (which = -1 ∧ fx = none) ∨ ∃ k X, which = nI k ∧ k ≤ 5 ∧ fx = some X ∧ okX X ∧ LAWr R (110 + 900 * k) X
def TL (fx : Option LWX) (kind : Nat) (wd : Nat → Int) : Option Int := match fx with
  | none => none
  | some X => tel X (wenv wd) kind X.1
theorem LAWc_cg {T : Nat → Nat × Nat} {r : Nat → Nat → Option Nat} {I J : am_I} {t : Nat} {X : LWX} (h : LAWc T r I t X) (e : ∀ c, 99 ≤ c → J c = I c) : LAWc T r J t X := by
  obtain ⟨c0, c3, c5, n, C, mk, y1, y2, y3, y4, y5, y6, y7, y8, y9, y10, y11, y12, y13, y14, y15, y16, y17, y18, y19, y20, y21, y22⟩ := h
  refine ⟨c0, c3, c5, n, C, mk, y1, y2, y3, y4, y5, y6, y7, y8, y9, y10, y11, y12, y13, y14, y15, y16, ?_, ?_, fun k hk => ?_, fun c hc => ?_, fun c i hc hi => ?_, y22⟩
  · rw [e t y1]; exact y17
  · rw [e t y1]; exact y18
  · rw [e c0 y2]; exact y19 k hk
  · rw [e c3 y3]; exact y20 c hc
  · rw [e c5 y4]; exact y21 c i hc hi
theorem LOc_cg {T : Nat → Nat × Nat} {r : Nat → Nat → Option Nat} {I J : am_I} {o : Option Nat} {fx : Option LWX} (h : LOc T r I o fx) (e : ∀ c, 99 ≤ c → J c = I c) : LOc T r J o fx := by
  rcases h with h | ⟨t, X, h1, h2, h3, h4⟩
  · exact Or.inl h
  · exact Or.inr ⟨t, X, h1, h2, h3, LAWc_cg h4 e⟩
def sC (x : Int32) (o : Option Int) : Int32 := match o with
  | none => x
  | some v => cl9 (Int32.ofInt v)
/-- told of one: costs, gains, fines -/
theorem cTs {T : Nat → Nat × Nat} {r : Nat → Nat → Option Nat} {I J : am_I} {X : LWX} {t m p kind : Nat} {wt bf ot : Int} {x3 : Int32} {K : Int32 → am_I → Prop} (h : PWd I m p) (hX : okX X) (hL : LAWc T r I t X) (hk : kind ≤ 3) (hJ : ∀ c, c ≠ 25 → J c = I c) (hw : ∀ w, w < 10 → -1000000000 ≤ wdp (I 68) p wt bf ot w ∧ wdp (I 68) p wt bf ot w ≤ 1000000000 ∧ J 25 w = Int32.ofInt (wdp (I 68) p wt bf ot w)) (hK : ∀ G, (∀ c, c ≠ 24 → c ≠ 25 → c ≠ 26 → G c = I c) → K (sC x3 (TL (some X) kind (wdp (I 68) p wt bf ot))) G) : w_112s t (nI kind) x3 T r J K := by
  refine q112 (m := m) (X := X) (wd := wdp (I 68) p wt bf ot) h.1 (by rw [hJ 1 (by decide)]; exact h.2.2.1) hX (LAWc_cg hL (fun c hc => hJ c (by omega))) hk hw (fun G hG => ?_)
  exact hK G (fun c c1 c2 c3 => (hG c c1 c3).trans (hJ c c2))
theorem smI_n {n : Nat} (h : n ≤ 100) : smI (nI n) (n : Int) := ⟨rfl, by omega, by omega⟩
theorem smI_m1 : smI (-1) (-1) := ⟨rfl, by decide, by decide⟩
/-- costs -/
theorem c109n {I : am_I} {m p : Nat} {x3 x4 : Int32} {wt bf : Int} {K : Int32 → am_I → Prop} (h : PWd I m p) (h3 : smI x3 wt) (h4 : smI x4 bf) (hK : ∀ G, (∀ c, c ≠ 24 → c ≠ 25 → c ≠ 26 → G c = I c) → K (sC (I 5 p + 1) (TL none 0 (wdp (I 68) p wt bf (-1)))) G) : w_109n (nI p) x3 x4 I K := by
  unfold w_109n
  refine q110 h h3 h4 smI_m1 (fun J hJ hw => ?_)
  have hp := h.2.1
  have hm := h.1
  refine ⟨nb_gd (by omega) (by decide), ?_⟩
  rw [nI_clamp (by omega : p < 2 ^ 31), hJ 5 (by decide)]
  exact hK J (fun c _ c2 _ => hJ c c2)
theorem c109s {T : Nat → Nat × Nat} {r : Nat → Nat → Option Nat} {I : am_I} {X : LWX} {t m p : Nat} {x3 x4 : Int32} {wt bf : Int} {K : Int32 → am_I → Prop} (h : PWd I m p) (hX : okX X) (hL : LAWc T r I t X) (h3 : smI x3 wt) (h4 : smI x4 bf) (hK : ∀ G, (∀ c, c ≠ 24 → c ≠ 25 → c ≠ 26 → G c = I c) → K (sC (I 5 p + 1) (TL (some X) 0 (wdp (I 68) p wt bf (-1)))) G) : w_109s t (nI p) x3 x4 T r I K := by
  unfold w_109s
  refine q110 h h3 h4 smI_m1 (fun J hJ hw => ?_)
  have hp := h.2.1
  have hm := h.1
  refine ⟨nb_gd (by omega) (by decide), ?_⟩
  rw [nI_clamp (by omega : p < 2 ^ 31), hJ 5 (by decide)]
  exact cTs (kind := 0) h hX hL (by decide) hJ hw hK
/-- barred -/
def isb (o : Option Int) : Bool := o.isSome
theorem cl9_m1 (z : Int32) : ¬ cl9 z = -1 := by
  unfold cl9
  generalize (if z < (999 : Int32) then z else (999 : Int32)) = y
  split
  · rename_i h
    intro e
    rw [e] at h
    exact absurd h (by decide)
  · decide
theorem c113n {I : am_I} {m p : Nat} {x3 x4 : Int32} {wt bf : Int} {K : Int32 → am_I → Prop} (h : PWd I m p) (h3 : smI x3 wt) (h4 : smI x4 bf) (hK : ∀ G, (∀ c, c ≠ 24 → c ≠ 25 → c ≠ 26 → G c = I c) → K (b1 (isb (TL none 3 (wdp (I 68) p wt bf (-1))))) G) : w_113n (nI p) x3 x4 I K := by
  unfold w_113n
  refine q110 h h3 h4 smI_m1 (fun J hJ hw => ?_)
  refine am_ifp rfl ?_
  exact hK J (fun c _ c2 _ => hJ c c2)
theorem c113s {T : Nat → Nat × Nat} {r : Nat → Nat → Option Nat} {I : am_I} {X : LWX} {t m p : Nat} {x3 x4 : Int32} {wt bf : Int} {K : Int32 → am_I → Prop} (h : PWd I m p) (hX : okX X) (hL : LAWc T r I t X) (h3 : smI x3 wt) (h4 : smI x4 bf) (hK : ∀ G, (∀ c, c ≠ 24 → c ≠ 25 → c ≠ 26 → G c = I c) → K (b1 (isb (TL (some X) 3 (wdp (I 68) p wt bf (-1))))) G) : w_113s t (nI p) x3 x4 T r I K := by
  unfold w_113s
  refine q110 h h3 h4 smI_m1 (fun J hJ hw => ?_)
  refine cTs (kind := 3) h hX hL (by decide) hJ hw (fun G hG => ?_)
  have k := hK G hG
  cases ht : TL (some X) 3 (wdp (I 68) p wt bf (-1)) with
  | none =>
    rw [ht] at k
    exact am_ifp rfl k
  | some v =>
    rw [ht] at k
    exact am_ifn (cl9_m1 _) k
/-- gains, fines -/
theorem c114n {I : am_I} {m p : Nat} {x3 : Int32} {ot : Int} {K : Int32 → am_I → Prop} (h : PWd I m p) (h3 : smI x3 ot) (hK : ∀ G, (∀ c, c ≠ 24 → c ≠ 25 → c ≠ 26 → G c = I c) → K (sC (I 5 p * 3) (TL none 1 (wdp (I 68) p (-1) (-1) ot))) G) : w_114n (nI p) x3 I K := by
  unfold w_114n
  refine q110 h smI_m1 smI_m1 h3 (fun J hJ hw => ?_)
  have hp := h.2.1
  have hm := h.1
  refine ⟨nb_gd (by omega) (by decide), ?_⟩
  rw [nI_clamp (by omega : p < 2 ^ 31), hJ 5 (by decide)]
  exact hK J (fun c _ c2 _ => hJ c c2)
theorem c114s {T : Nat → Nat × Nat} {r : Nat → Nat → Option Nat} {I : am_I} {X : LWX} {t m p : Nat} {x3 : Int32} {ot : Int} {K : Int32 → am_I → Prop} (h : PWd I m p) (hX : okX X) (hL : LAWc T r I t X) (h3 : smI x3 ot) (hK : ∀ G, (∀ c, c ≠ 24 → c ≠ 25 → c ≠ 26 → G c = I c) → K (sC (I 5 p * 3) (TL (some X) 1 (wdp (I 68) p (-1) (-1) ot))) G) : w_114s t (nI p) x3 T r I K := by
  unfold w_114s
  refine q110 h smI_m1 smI_m1 h3 (fun J hJ hw => ?_)
  have hp := h.2.1
  have hm := h.1
  refine ⟨nb_gd (by omega) (by decide), ?_⟩
  rw [nI_clamp (by omega : p < 2 ^ 31), hJ 5 (by decide)]
  exact cTs (kind := 1) h hX hL (by decide) hJ hw hK
theorem c115n {I : am_I} {m p : Nat} {x3 : Int32} {ot : Int} {K : Int32 → am_I → Prop} (h : PWd I m p) (h3 : smI x3 ot) (hK : ∀ G, (∀ c, c ≠ 24 → c ≠ 25 → c ≠ 26 → G c = I c) → K (sC (I 4 p) (TL none 2 (wdp (I 68) p (-1) (-1) ot))) G) : w_115n (nI p) x3 I K := by
  unfold w_115n
  refine q110 h smI_m1 smI_m1 h3 (fun J hJ hw => ?_)
  have hp := h.2.1
  have hm := h.1
  refine ⟨nb_gd (by omega) (by decide), ?_⟩
  rw [nI_clamp (by omega : p < 2 ^ 31), hJ 4 (by decide)]
  exact hK J (fun c _ c2 _ => hJ c c2)
theorem c115s {T : Nat → Nat × Nat} {r : Nat → Nat → Option Nat} {I : am_I} {X : LWX} {t m p : Nat} {x3 : Int32} {ot : Int} {K : Int32 → am_I → Prop} (h : PWd I m p) (hX : okX X) (hL : LAWc T r I t X) (h3 : smI x3 ot) (hK : ∀ G, (∀ c, c ≠ 24 → c ≠ 25 → c ≠ 26 → G c = I c) → K (sC (I 4 p) (TL (some X) 2 (wdp (I 68) p (-1) (-1) ot))) G) : w_115s t (nI p) x3 T r I K := by
  unfold w_115s
  refine q110 h smI_m1 smI_m1 h3 (fun J hJ hw => ?_)
  have hp := h.2.1
  have hm := h.1
  refine ⟨nb_gd (by omega) (by decide), ?_⟩
  rw [nI_clamp (by omega : p < 2 ^ 31), hJ 4 (by decide)]
  exact cTs (kind := 2) h hX hL (by decide) hJ hw hK
/-- whether one stays out -/
def sty (I : am_I) (fx : Option LWX) (p : Nat) (ot : Int) : Bool := !decide (10 * sC (I 5 p * 3) (TL fx 1 (wdp (I 68) p (-1) (-1) ot)) ≤ I 12 2 * sC (I 4 p) (TL fx 2 (wdp (I 68) p (-1) (-1) ot)))
theorem c116n {I : am_I} {m p : Nat} {x3 : Int32} {ot : Int} {K : Int32 → am_I → Prop} (h : PWd I m p) (h3 : smI x3 ot) (hK : ∀ G, (∀ c, c ≠ 24 → c ≠ 25 → c ≠ 26 → G c = I c) → K (b1 (sty I none p ot)) G) : w_116n (nI p) x3 I K := by
  unfold w_116n
  refine c114n h h3 (fun G hG => ?_)
  refine c115n (PWd_cg h (hG 1 (by decide) (by decide) (by decide)) (hG 4 (by decide) (by decide) (by decide)) (hG 5 (by decide) (by decide) (by decide)) (hG 7 (by decide) (by decide) (by decide)) (hG 12 (by decide) (by decide) (by decide)) (hG 68 (by decide) (by decide) (by decide)) (by rw [hG 66 (by decide) (by decide) (by decide)])) h3 (fun H hH => ?_)
  rw [hG 12 (by decide) (by decide) (by decide), hG 4 (by decide) (by decide) (by decide), hG 68 (by decide) (by decide) (by decide)]
  have k := hK H (fun c c1 c2 c3 => (hH c c1 c2 c3).trans (hG c c1 c2 c3))
  unfold sty at k
  by_cases c : 10 * sC (I 5 p * 3) (TL none 1 (wdp (I 68) p (-1) (-1) ot)) ≤ I 12 2 * sC (I 4 p) (TL none 2 (wdp (I 68) p (-1) (-1) ot))
  · rw [decide_eq_true c] at k
    exact am_ifp c k
  · rw [decide_eq_false c] at k
    exact am_ifn c k
theorem c116s {T : Nat → Nat × Nat} {r : Nat → Nat → Option Nat} {I : am_I} {X : LWX} {t m p : Nat} {x3 : Int32} {ot : Int} {K : Int32 → am_I → Prop} (h : PWd I m p) (hX : okX X) (hL : LAWc T r I t X) (h3 : smI x3 ot) (hK : ∀ G, (∀ c, c ≠ 24 → c ≠ 25 → c ≠ 26 → G c = I c) → K (b1 (sty I (some X) p ot)) G) : w_116s t (nI p) x3 T r I K := by
  unfold w_116s
  refine c114s h hX hL h3 (fun G hG => ?_)
  refine c115s (PWd_cg h (hG 1 (by decide) (by decide) (by decide)) (hG 4 (by decide) (by decide) (by decide)) (hG 5 (by decide) (by decide) (by decide)) (hG 7 (by decide) (by decide) (by decide)) (hG 12 (by decide) (by decide) (by decide)) (hG 68 (by decide) (by decide) (by decide)) (by rw [hG 66 (by decide) (by decide) (by decide)])) hX (LAWc_cg hL (fun c hc => hG c (by omega) (by omega) (by omega))) h3 (fun H hH => ?_)
  rw [hG 12 (by decide) (by decide) (by decide), hG 4 (by decide) (by decide) (by decide), hG 68 (by decide) (by decide) (by decide)]
  have k := hK H (fun c c1 c2 c3 => (hH c c1 c2 c3).trans (hG c c1 c2 c3))
  unfold sty at k
  by_cases c : 10 * sC (I 5 p * 3) (TL (some X) 1 (wdp (I 68) p (-1) (-1) ot)) ≤ I 12 2 * sC (I 4 p) (TL (some X) 2 (wdp (I 68) p (-1) (-1) ot))
  · rw [decide_eq_true c] at k
    exact am_ifp c k
  · rw [decide_eq_false c] at k
    exact am_ifn c k
