/-! rota: pieces of the reference's search -/
def ro (h : List Nat) (i : Nat) : Nat := h.reverse.getD i 0
theorem ro_app (a h : List Nat) {i : Nat} (hi : i < h.length) : ro (a ++ h) i = ro h i := by
  unfold ro
  rw [List.reverse_append, List.getD_eq_getElem?_getD, List.getD_eq_getElem?_getD, List.getElem?_append_left (by rw [List.length_reverse]; exact hi)]
theorem ro_l (p : Nat) (h : List Nat) {i : Nat} (hi : i < h.length) : ro (p :: h) i = ro h i := ro_app [p] h hi
theorem ro_e (p : Nat) (h : List Nat) : ro (p :: h) h.length = p := by
  unfold ro
  rw [List.reverse_cons, List.getD_eq_getElem?_getD, List.getElem?_append_right (by rw [List.length_reverse]; exact Nat.le_refl _), List.length_reverse, Nat.sub_self]
  rfl
theorem s1_s (k : Nat) : nI (k + 1) - 1 = nI k := by
  rw [nI_succ, Int32.add_sub_cancel]
def vp (P : PRI) : List Nat → Prop
  | [] => True
  | p :: h => vp P h ∧ ∃ c, P p h.length (if h.head? = some p then 1 else 0) = some c
theorem vp_app {P : PRI} : ∀ (a h : List Nat), vp P (a ++ h) → vp P h
  | [], _, k => k
  | _ :: a, h, k => vp_app a h k.1
theorem cst_le {P : PRI} (hP : ∀ p w b c, P p w b = some c → c ≤ 1000) : ∀ h, vp P h → cst P h ≤ 1000 * h.length
  | [], _ => Nat.le_refl _
  | p :: h, ⟨k, c, hc⟩ => by
    have ih := cst_le hP h k
    have c1 := hP _ _ _ _ hc
    show cst P h + (P p h.length (if h.head? = some p then 1 else 0)).getD 0 ≤ 1000 * (h.length + 1)
    rw [hc]
    show cst P h + c ≤ _
    omega
/-- what p costs behind h -/
theorem q275 {P : PRI} {m j : Nat} {h : List Nat} {J : am_I} {K : Int32 → Prop} (hm : m ≤ 8) (hj : j < m) (hl : h.length ≤ 5) (hp : ∀ p ∈ h, p < 8) (rt : RTs J P m (12 * m)) (e1 : ∀ i, i < h.length → J 89 i = nI (ro h i)) (e2 : J 89 h.length = nI j) (hK : K (pI (P j h.length (if h.head? = some j then 1 else 0)))) : w_275 (nI h.length) J K := by
  unfold w_275
  refine ⟨nb_gd (by omega) (by decide), ?_⟩
  rw [nI_clamp (by omega : h.length < 2 ^ 31), e2]
  have main : ∀ b, b < 2 → (if h.head? = some j then 1 else 0) = b → ¬ ((12 * nI j + 2 * nI h.length) + nI b < 0 ∨ 96 ≤ Int32.toNatClampNeg ((12 * nI j + 2 * nI h.length) + nI b)) ∧ K (J 88 (Int32.toNatClampNeg ((12 * nI j + 2 * nI h.length) + nI b))) := by
    intro b hb e
    have es : (12 * nI j + 2 * nI h.length) + nI b = nI (12 * j + 2 * h.length + b) := by rw [show (2 : Int32) = nI 2 from rfl, show (12 : Int32) = nI 12 from rfl, nb_mul, nb_mul, nb_add, nb_add]
    refine ⟨nb_gdx es (by omega) (by decide), ?_⟩
    rw [nb_cl es (by omega), rt j h.length b hj (by omega) hb (by omega)]
    rw [e] at hK
    exact hK
  cases h with
  | nil =>
    refine am_ifp (by decide) (main 0 (by decide) (if_neg (by simp)))
  | cons a t =>
    have len : (a :: t).length = t.length + 1 := rfl
    have ha : a < 8 := hp a List.mem_cons_self
    refine am_ifn (fun k => ?_) ?_
    · have := (nb_le (b := 0) (by omega) (by decide)).mp k
      omega
    · have e0 := e1 t.length (by omega)
      rw [ro_e] at e0
      rw [len, s1_s]
      refine ⟨nb_gd (by omega) (by decide), (fun k => by
        rcases k with k | k
        · exact absurd k (nI_pos (by omega))
        · omega), ?_⟩
      rw [nI_clamp (by omega : t.length < 2 ^ 31), e0]
      by_cases z : a = j
      · subst z
        exact am_ifp rfl (main 1 (by decide) (if_pos rfl))
      · refine am_ifn (fun k => z ((nb_inj (by omega) (by omega)).mp k)) (main 0 (by decide) (if_neg (fun k => z ?_)))
        have k : some a = some j := k
        exact Option.some.inj k
theorem l276a {P : PRI} {m : Nat} {J : am_I} {h : List Nat} {E : Int32 → Int32 → Prop} (hm : m ≤ 8) (hl : h.length = 6) (hp : ∀ p ∈ h, p < m) (hv : vp P h) (rt : RTs J P m (12 * m)) (e1 : ∀ i, i < 6 → J 89 i = nI (ro h i)) (hE : ∀ u, E (nI (cst P h)) u) : ∀ k (pre g : List Nat), pre.length = k → h = pre ++ g → lw_276_4 (k + 1) (nI (cst P g)) (nI g.length) J E
  | 0, pre, g, hk, e => by
    have e0 : pre = [] := List.length_eq_zero_iff.mp hk
    subst e0
    have e : h = g := e
    subst e
    unfold lw_276_4
    rw [hl, if_pos (by decide)]
    exact hE _
  | k + 1, pre, g, hk, e => by
    have len : g.length + (k + 1) = 6 := by
      have := congrArg List.length e
      rw [List.length_append, hl, hk] at this
      omega
    rcases List.eq_nil_or_concat pre with e0 | ⟨t, a, e0⟩
    · rw [e0] at hk
      exact absurd hk (by simp)
    · have e0 : pre = t ++ [a] := by rw [e0]; simp
      have ht : t.length = k := by
        rw [e0, List.length_append] at hk
        have : [a].length = 1 := rfl
        omega
      have e2 : h = t ++ (a :: g) := by rw [e, e0]; simp
      have ih := l276a hm hl hp hv rt e1 hE k t (a :: g) ht e2
      have va : vp P (a :: g) := vp_app t (a :: g) (by rw [← e2]; exact hv)
      obtain ⟨_, c, hc⟩ := va
      have am : a < m := hp a (by rw [e2]; simp)
      have gm : ∀ p ∈ g, p < 8 := fun p hpg => by
        have := hp p (by rw [e2]; simp [hpg])
        omega
      unfold lw_276_4
      rw [if_neg (show ¬ (6 : Int32) ≤ nI g.length from nI_ge (b := 6) (by omega) (by decide))]
      refine q275 (P := P) (j := a) hm am (by omega) gm rt (fun i hi => ?_) ?_ ?_
      · rw [e1 i (by omega), e2, ro_app t (a :: g) (by rw [List.length_cons]; omega), ro_l a g hi]
      · rw [e1 g.length (by omega), e2, ro_app t (a :: g) (by rw [List.length_cons]; omega), ro_e]
      · rw [hc]
        show lw_276_4 (k + 1) (nI (cst P g) + nI c) (nI g.length + 1) J E
        rw [nb_add, ← nI_succ]
        have k2 : cst P (a :: g) = cst P g + c := by
          show cst P g + (P a g.length (if g.head? = some a then 1 else 0)).getD 0 = _
          rw [hc]
          rfl
        rw [← k2]
        exact ih
theorem l276b {I : am_I} {h : List Nat} {E : Int32 → am_I → Prop} (e1 : ∀ i, i < 6 → I 89 i = nI (ro h i)) (hE : ∀ u J, (∀ c, c ≠ 90 → J c = I c) → (∀ i, i < 6 → J 90 i = nI (ro h i)) → E u J) : ∀ k i J, i + k = 6 → (∀ c, c ≠ 90 → J c = I c) → (∀ i', i' < i → J 90 i' = nI (ro h i')) → lw_276_49 (k + 1) (nI i) J E
  | 0, i, J, hb, f, g => by
    have e : i = 6 := by omega
    subst e
    unfold lw_276_49
    rw [if_pos (by decide)]
    exact hE _ J f g
  | k + 1, i, J, hb, f, g => by
    have ih := fun G => l276b e1 hE k (i + 1) G (by omega)
    rw [nI_succ] at ih
    unfold lw_276_49
    rw [if_neg (show ¬ (6 : Int32) ≤ nI i from nI_ge (b := 6) (by omega) (by decide))]
    refine ⟨nb_gd (by omega) (by decide), nb_gd (by omega) (by decide), ?_⟩
    rw [nI_clamp (by omega : i < 2 ^ 31), f 89 (by decide), e1 i (by omega)]
    refine ih _ (fun c hc => ?_) (fun i' hi' => ?_)
    · rw [uu_h hc]; exact f c hc
    · by_cases z : i' = i
      · subst z; rw [uu_e]
      · rw [uu_n z]; exact g i' (by omega)
/-- what the search has found -/
def FS (J : am_I) (S : SRC) : Prop := J 66 46 = nI S.1 ∧ J 66 47 = nI S.2.1 ∧ S.2.1 ≤ 100000000 ∧ (S.2.1 < 100000000 → ∀ i, i < 6 → J 90 i = nI (S.2.2.getD i 0))
def frX (J G : am_I) : Prop := (∀ c, c ≠ 66 → c ≠ 90 → G c = J c) ∧ ∀ k, k ≠ 46 → k ≠ 47 → G 66 k = J 66 k
theorem q276 {P : PRI} {m M : Nat} {J : am_I} {h : List Nat} {S : SRC} {K : am_I → Prop} (hm : m ≤ 8) (hP : ∀ p w b c, P p w b = some c → c ≤ 1000) (hl : h.length = 6) (hp : ∀ p ∈ h, p < m) (hv : vp P h) (rt : RTs J P m (12 * m)) (e1 : ∀ i, i < 6 → J 89 i = nI (ro h i)) (fs : FS J S) (hK : ∀ G, frX J G → FS G (vis P m M 0 h (cst P h) S) → K G) : w_276 J K := by
  unfold w_276
  obtain ⟨f1, f2, f3, f4⟩ := fs
  have cl := cst_le hP h hv
  have ev : vis P m M 0 h (cst P h) S = (S.1 + 1, if cst P h < S.2.1 then (cst P h, h.reverse) else (S.2.1, S.2.2)) := by
    have ew : wy P m M 0 h = (0, 1, 0) := rfl
    have ek : pk P m M 0 h = [] := rfl
    unfold vis
    rw [ew, ek, List.append_nil]
    by_cases z : cst P h < S.2.1
    · rw [if_pos z, if_pos (show 0 < ((0, 1, 0) : Nat × Nat × Nat).2.1 ∧ cst P h + ((0, 1, 0) : Nat × Nat × Nat).1 < S.2.1 from ⟨Nat.zero_lt_one, z⟩)]
      rfl
    · rw [if_neg z, if_neg (show ¬ (0 < ((0, 1, 0) : Nat × Nat × Nat).2.1 ∧ cst P h + ((0, 1, 0) : Nat × Nat × Nat).1 < S.2.1) from fun q => z q.2)]
  rw [ev] at hK
  refine ⟨7, l276a (h := h) hm hl hp hv rt e1 (fun u => ?_) 6 h [] hl (by simp)⟩
  rw [f2]
  by_cases z : cst P h < S.2.1
  · refine am_ifn (fun k => ?_) ⟨7, ?_⟩
    · have := (nb_le (by omega) (by omega)).mp k
      omega
    · rw [if_pos z] at hK
      refine l276b (I := am_u (am_u J 66 46 (J 66 46 + 1)) 66 47 (nI (cst P h))) (h := h) (E := fun _ I5 => K I5) (fun i hi => ?_) (fun _ G gc g90 => hK G ⟨fun c c1 c2 => ?_, fun k k1 k2 => ?_⟩ ⟨?_, ?_, ?_, ?_⟩) 6 0 _ (by omega) (fun _ _ => rfl) (fun i hi => absurd hi (by omega))
      · rw [uu_c (by decide), uu_c (by decide)]; exact e1 i hi
      · rw [gc c c2, uu_h c1, uu_h c1]
      · rw [gc 66 (by decide), uu_n k2, uu_n k1]
      · rw [gc 66 (by decide), uu_n (by decide), uu_e, f1, ← nI_succ]
      · rw [gc 66 (by decide), uu_e]
      · show cst P h ≤ _
        omega
      · intro _ i hi
        exact g90 i hi
  · refine am_ifp ((nb_le (by omega) (by omega)).mpr (by omega)) ?_
    rw [if_neg z] at hK
    refine hK _ ⟨fun c c1 c2 => ?_, fun k k1 k2 => ?_⟩ ⟨?_, ?_, f3, fun k i hi => ?_⟩
    · rw [uu_h c1]
    · rw [uu_n k1]
    · rw [uu_e, f1, ← nI_succ]
    · rw [uu_n (by decide)]; exact f2
    · rw [uu_c (by decide)]; exact f4 k i hi
