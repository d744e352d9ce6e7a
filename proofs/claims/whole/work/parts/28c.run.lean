/-! orders: a memory on paper of which both halves are told -/
def psh (f : Nat → Int32) (t s : Nat) (x : Int32) : Nat → Int32 := fun i => if i < t then f (i + s) else if i = t then x else f i
theorem psh_l {f : Nat → Int32} {t s i : Nat} {x : Int32} (h : i < t) : psh f t s x i = f (i + s) := if_pos h
theorem psh_e {f : Nat → Int32} {t s : Nat} {x : Int32} : psh f t s x t = x := by
  unfold psh
  rw [if_neg (by omega), if_pos rfl]
/-- one act is kept by the class -/
def kpC (V : am_I) (t s : Nat) (x0 x1 x2 x3 x4 : Int32) : am_I := fun c => if c = 29 then (fun i => if i = 0 then nI (t + 1) else V 29 i) else if c = 30 then psh (V 30) t s x0 else if c = 31 then psh (V 31) t s x1 else if c = 32 then psh (V 32) t s x2 else if c = 33 then psh (V 33) t s x3 else if c = 34 then psh (V 34) t s x4 else V c
theorem kpC_o {V : am_I} {t s c : Nat} {x0 x1 x2 x3 x4 : Int32} (h : c < 29 ∨ 34 < c) : kpC V t s x0 x1 x2 x3 x4 c = V c := by
  unfold kpC
  rw [if_neg (by omega), if_neg (by omega), if_neg (by omega), if_neg (by omega), if_neg (by omega), if_neg (by omega)]
theorem kpC_k {V : am_I} {t s : Nat} {x0 x1 x2 x3 x4 : Int32} : kep V (kpC V t s x0 x1 x2 x3 x4) t s x0 x1 x2 x3 x4 := by
  refine ⟨fun c hc => kpC_o hc, rfl, fun j hj => ⟨psh_l hj, psh_l hj, psh_l hj, psh_l hj, psh_l hj⟩, psh_e, psh_e, psh_e, psh_e, psh_e⟩
/-- and by the reference -/
def kpR (V : am_I) (t s : Nat) (x0 : Int32) : am_I := fun c => if c = 66 then (fun i => if i = 8 then nI (t + 1) else V 66 i) else if c = 71 then (fun k => if k < 21 * t then V 71 (k + 21 * s) else if k < 21 * t + 21 then V 68 (5 + (k - 21 * t)) else V 71 k) else if c = 72 then psh (V 72) t s x0 else V c
theorem kpR_k {V : am_I} {t s : Nat} {x0 : Int32} (ht : t ≤ 15) : rmb V (kpR V t s x0) t s x0 := by
  refine ⟨fun c c1 c2 c3 => ?_, fun i hi => if_neg hi, rfl, fun k hk => if_pos hk, fun i hi => ?_, fun j hj => psh_l hj, psh_e, fun k hk => ?_⟩
  · unfold kpR
    rw [if_neg c1, if_neg c2, if_neg c3]
  · show (if 21 * t + i < 21 * t then V 71 (21 * t + i + 21 * s) else if 21 * t + i < 21 * t + 21 then V 68 (5 + (21 * t + i - 21 * t)) else V 71 (21 * t + i)) = V 68 (5 + i)
    rw [if_neg (by omega), if_pos (by omega), Nat.add_sub_cancel_left]
  · show (if k < 21 * t then V 71 (k + 21 * s) else if k < 21 * t + 21 then V 68 (5 + (k - 21 * t)) else V 71 k) = V 71 k
    rw [if_neg (by omega), if_neg (by omega)]
/-- the class's cells are those of V -/
def CNv (I V : am_I) (u : Nat) : Prop := (∀ c, 1 ≤ c → c ≤ 12 → I c = V c) ∧ I 29 0 = nI u ∧ V 29 0 = nI u ∧ ∀ j, j < u → I 30 j = V 30 j ∧ I 31 j = V 31 j ∧ I 32 j = V 32 j ∧ I 33 j = V 33 j ∧ I 34 j = V 34 j
/-- the reference's cells are those of V -/
def RNv (G V : am_I) (u : Nat) : Prop := G 68 = V 68 ∧ G 66 8 = nI u ∧ V 66 8 = nI u ∧ (∀ k, k < 21 * u → G 71 k = V 71 k) ∧ ∀ j, j < u → G 72 j = V 72 j
theorem CNv_k {I V J W : am_I} {u t s : Nat} {x0 x1 x2 x3 x4 : Int32} (h : CNv I V u) (hu : t + s = u) (k : kep I J t s x0 x1 x2 x3 x4) (k2 : kep V W t s x0 x1 x2 x3 x4) : CNv J W (t + 1) := by
  obtain ⟨h1, h2, h3, h4⟩ := h
  obtain ⟨a1, a2, a3, a4, a5, a6, a7, a8⟩ := k
  obtain ⟨b1', b2, b3, b4, b5, b6, b7, b8⟩ := k2
  refine ⟨fun c c1 c2 => by rw [a1 c (by omega), b1' c (by omega)]; exact h1 c c1 c2, a2, b2, fun j hj => ?_⟩
  by_cases e : j = t
  · rw [e, a4, a5, a6, a7, a8, b4, b5, b6, b7, b8]
    exact ⟨rfl, rfl, rfl, rfl, rfl⟩
  · obtain ⟨c1, c2, c3, c4, c5⟩ := a3 j (by omega)
    obtain ⟨d1, d2, d3, d4, d5⟩ := b3 j (by omega)
    obtain ⟨e1, e2, e3, e4, e5⟩ := h4 (j + s) (by omega)
    exact ⟨by rw [c1, d1, e1], by rw [c2, d2, e2], by rw [c3, d3, e3], by rw [c4, d4, e4], by rw [c5, d5, e5]⟩
theorem RNv_k {I V J W : am_I} {u t s : Nat} {x0 : Int32} (h : RNv I V u) (hu : t + s = u) (k : rmb I J t s x0) (k2 : rmb V W t s x0) : RNv J W (t + 1) := by
  obtain ⟨h1, h2, h3, h4, h5⟩ := h
  obtain ⟨a1, a2, a3, a4, a5, a6, a7, _⟩ := k
  obtain ⟨b1', b2, b3, b4, b5, b6, b7, _⟩ := k2
  refine ⟨by rw [a1 68 (by decide) (by decide) (by decide), b1' 68 (by decide) (by decide) (by decide)]; exact h1, a3, b3, fun k hk => ?_, fun j hj => ?_⟩
  · by_cases e : k < 21 * t
    · rw [a4 k e, b4 k e]
      exact h4 _ (by omega)
    · obtain ⟨i, ei⟩ : ∃ i, k = 21 * t + i := ⟨k - 21 * t, by omega⟩
      rw [ei, a5 i (by omega), b5 i (by omega), h1]
  · by_cases e : j = t
    · rw [e, a7, b7]
    · rw [a6 j (by omega), b6 j (by omega)]
      exact h5 _ (by omega)
def IVT : am_P := fun _ _ _ _ _ => True
theorem IVT_fr : FrD IVT := fun _ _ _ _ _ _ _ _ => trivial
/-- both halves of V tell the same -/
def IV (V : am_I) : Prop := ∃ L, Inv IVT 0 (fun _ => (0, 0)) (fun _ _ => none) V L
