/-! the reference reads: its pile of signs, what is settled -/
def bnN (o : Nat) : Nat := if 31 ≤ o then 0 else if o = 30 then 1 else if o = 29 then 2 else if o = 28 then 3 else if 25 ≤ o then 4 else if 22 ≤ o then 6 else 5
theorem f225 : ∀ o, o < 40 → f_225 (nI o) = nI (bnN o) := by decide +kernel
theorem bnN_le : ∀ o, o < 40 → bnN o ≤ 6 := by decide
def PIL (m79 m80 : Nat → Int32) : List (Nat × Nat) → Prop
  | [] => True
  | x :: t => m79 t.length = nI x.1 ∧ m80 t.length = nI x.2 ∧ PIL m79 m80 t
theorem PIL_cg {a b a' b' : Nat → Int32} : ∀ {Q : List (Nat × Nat)}, PIL a b Q → (∀ k, k < Q.length → a' k = a k ∧ b' k = b k) → PIL a' b' Q
  | [], _, _ => trivial
  | x :: t, h, e => by
    have el : (x :: t).length = t.length + 1 := rfl
    obtain ⟨h1, h2, h3⟩ := h
    refine ⟨(e _ (by omega)).1.trans h1, (e _ (by omega)).2.trans h2, PIL_cg h3 (fun k hk => e k (by omega))⟩
theorem PIL_at {a b : Nat → Int32} {x : Nat × Nat} {t : List (Nat × Nat)} : ∀ A : List (Nat × Nat), PIL a b (A ++ x :: t) → a t.length = nI x.1 ∧ b t.length = nI x.2
  | [], h => ⟨h.1, h.2.1⟩
  | y :: A, h => PIL_at A h.2.2
theorem PIL_dr {a b : Nat → Int32} {t : List (Nat × Nat)} : ∀ A : List (Nat × Nat), PIL a b (A ++ t) → PIL a b t
  | [], h => h
  | y :: A, h => PIL_dr A h.2.2
def ao (x : Nat × Nat) : Bool := decide (x.1 = 29 ∨ x.1 = 30)
def wtP : List (Nat × Nat) → Nat
  | [] => 0
  | x :: t => (if ao x = true then 0 else 1) + wtP t
theorem wtP_app : ∀ A t : List (Nat × Nat), wtP (A ++ t) = wtP A + wtP t
  | [], t => by show wtP t = 0 + wtP t; omega
  | x :: A, t => by
    show (if ao x = true then 0 else 1) + wtP (A ++ t) = (if ao x = true then 0 else 1) + wtP A + wtP t
    rw [wtP_app A t]
    omega
def okE (Q : List (Nat × Nat)) : Prop := ∀ x, x ∈ Q → 20 ≤ x.1 ∧ x.1 ≤ 32 ∧ x.2 < 400
/-- places of 'and', 'or' whose end isn't known yet -/
def okJ (M : Nat → Nat × Nat) (s : Nat) (Q : List (Nat × Nat)) : Prop := ∀ x, x ∈ Q → ao x = true → x.2 < s ∧ ((M x.2).1 = 13 ∨ (M x.2).1 = 14)
def fl : List (Nat × Nat) → (Nat → Nat × Nat) → Nat → (Nat → Nat × Nat) × Nat
  | [], M, s => (M, s)
  | x :: t, M, s => if ao x = true then fl t (up2 M x.2 ((M x.2).1, s)) s else fl t (up2 M s (x.1 - 16, 0)) (s + 1)
theorem fl_app : ∀ (A t : List (Nat × Nat)) (M : Nat → Nat × Nat) (s : Nat), fl (A ++ t) M s = fl t (fl A M s).1 (fl A M s).2
  | [], _, _, _ => rfl
  | x :: A, t, M, s => by
    show (if ao x = true then fl (A ++ t) (up2 M x.2 ((M x.2).1, s)) s else fl (A ++ t) (up2 M s (x.1 - 16, 0)) (s + 1)) = fl t (if ao x = true then fl A (up2 M x.2 ((M x.2).1, s)) s else fl A (up2 M s (x.1 - 16, 0)) (s + 1)).1 (if ao x = true then fl A (up2 M x.2 ((M x.2).1, s)) s else fl A (up2 M s (x.1 - 16, 0)) (s + 1)).2
    by_cases c : ao x = true
    · rw [if_pos c, if_pos c, fl_app A t]
    · rw [if_neg c, if_neg c, fl_app A t]
theorem fl_sz : ∀ (A : List (Nat × Nat)) (M : Nat → Nat × Nat) (s : Nat), (fl A M s).2 = s + wtP A
  | [], _, _ => rfl
  | x :: A, M, s => by
    show (if ao x = true then fl A (up2 M x.2 ((M x.2).1, s)) s else fl A (up2 M s (x.1 - 16, 0)) (s + 1)).2 = s + ((if ao x = true then 0 else 1) + wtP A)
    by_cases c : ao x = true
    · rw [if_pos c, if_pos c, fl_sz A]; omega
    · rw [if_neg c, if_neg c, fl_sz A]; omega
def toplt (lvl : Nat) : List (Nat × Nat) → Prop
  | [] => True
  | x :: _ => bnN x.1 < lvl
def CDr (law : Bool) (G : am_I) (M : Nat → Nat × Nat) (s : Nat) : Prop := ∀ k, k < s → G 77 k = nI (rpo (!law) (M k).1 (M k).2) ∧ G 78 k = nI (rpa (M k).1 (M k).2)
def SB (G : am_I) (Q : List (Nat × Nat)) (s : Nat) : Prop := G 66 23 = nI s ∧ G 66 29 = nI Q.length ∧ PIL (G 79) (G 80) Q ∧ s + wtP Q ≤ 400 ∧ Q.length ≤ 400 ∧ okE Q
def fr6 (G G' : am_I) : Prop := (∀ c, c ≠ 66 → c ≠ 77 → c ≠ 78 → G' c = G c) ∧ ∀ k, k ≠ 23 → k ≠ 29 → G' 66 k = G 66 k
theorem rpo_ao {b : Bool} {o w w' : Nat} (h : o = 13 ∨ o = 14) : rpo b o w = rpo b o w' ∧ rpa o w = w := by
  rcases h with rfl | rfl
  · exact ⟨rfl, rfl⟩
  · exact ⟨rfl, rfl⟩
theorem rpo_s : ∀ o, 20 ≤ o → o ≤ 28 → ∀ b, rpo b (o - 16) 0 = o ∧ rpa (o - 16) 0 = 0 := by
  intro o h1 h2 b
  rcases (by omega : o = 20 ∨ o = 21 ∨ o = 22 ∨ o = 23 ∨ o = 24 ∨ o = 25 ∨ o = 26 ∨ o = 27 ∨ o = 28) with rfl | rfl | rfl | rfl | rfl | rfl | rfl | rfl | rfl
  all_goals exact ⟨rfl, rfl⟩
theorem okJ_ao {M : Nat → Nat × Nat} {s : Nat} {x : Nat × Nat} {t : List (Nat × Nat)} (h : okJ M s (x :: t)) (c : ao x = true) : okJ (up2 M x.2 ((M x.2).1, s)) s t := by
  intro y hy ay
  obtain ⟨a1, a2⟩ := h y (List.mem_cons_of_mem _ hy) ay
  refine ⟨a1, ?_⟩
  by_cases e : y.2 = x.2
  · rw [e, up2_e]
    exact (h x (List.mem_cons_self) c).2
  · rw [up2_n e]
    exact a2
theorem okJ_no {M : Nat → Nat × Nat} {s : Nat} {x v : Nat × Nat} {t : List (Nat × Nat)} (h : okJ M s (x :: t)) : okJ (up2 M s v) (s + 1) t := by
  intro y hy ay
  obtain ⟨a1, a2⟩ := h y (List.mem_cons_of_mem _ hy) ay
  exact ⟨by omega, by rw [up2_n (by omega)]; exact a2⟩
theorem l226 {law g : Bool} {P : List (Nat × Nat)} {lvl : Nat} {E : am_I → Prop} (hl : 1 ≤ lvl) (hl2 : lvl ≤ 9) (hP : toplt lvl P) : ∀ (A : List (Nat × Nat)) G M s, SB G (A ++ P) s → (g = true → CDr law G M s ∧ okJ M s (A ++ P)) → (∀ x, x ∈ A → lvl ≤ bnN x.1) → (∀ G', fr6 G G' → SB G' P (fl A M s).2 → (g = true → CDr law G' (fl A M s).1 (fl A M s).2 ∧ okJ (fl A M s).1 (fl A M s).2 P) → E G') → lw_226_0 (A.length + 1) (nI lvl) G E
  | [], G, M, s, hS, hC, hA, hE => by
    obtain ⟨h1, h2, h3, h4, h5, h6⟩ := hS
    have hEG : E G := hE G ⟨fun _ _ _ _ => rfl, fun _ _ _ => rfl⟩ ⟨h1, h2, h3, h4, h5, h6⟩ hC
    show lw_226_0 1 (nI lvl) G E
    unfold lw_226_0
    rw [h2]
    cases P with
    | nil =>
      exact am_ifp (show nI ([] ++ ([] : List (Nat × Nat))).length ≤ 0 by decide) hEG
    | cons x t =>
      have el : (([] : List (Nat × Nat)) ++ x :: t).length = t.length + 1 := rfl
      obtain ⟨p1, p2, p3⟩ := h3
      obtain ⟨e1, e2, e3⟩ := h6 x (List.mem_cons_self)
      rw [el] at h5 ⊢
      rw [if_neg (show ¬ nI (t.length + 1) ≤ 0 from nI_ge (a := 0) (by omega) (by omega)), show nI (t.length + 1) - 1 = nI t.length from nI_sub (c := 1) (by omega)]
      refine ⟨nb_gd (by omega) (by decide), ?_⟩
      rw [nI_clamp (by omega : t.length < 2 ^ 31), p1, f225 _ (by omega)]
      have bl := bnN_le x.1 (by omega)
      exact am_ifp ((nb_lt (by omega) (by omega)).mpr hP) hEG
  | x :: A, G, M, s, hS, hC, hA, hE => by
    obtain ⟨h1, h2, h3, h4, h5, h6⟩ := hS
    obtain ⟨p1, p2, p3⟩ := h3
    obtain ⟨e1, e2, e3⟩ := h6 x (List.mem_cons_self)
    have hx := hA x (List.mem_cons_self)
    have bl := bnN_le x.1 (by omega)
    have el : (x :: A ++ P).length = (A ++ P).length + 1 := rfl
    have ew : wtP (x :: A ++ P) = (if ao x = true then 0 else 1) + wtP (A ++ P) := rfl
    have okE' : okE (A ++ P) := fun y hy => h6 y (List.mem_cons_of_mem _ hy)
    have ef : fl (x :: A) M s = if ao x = true then fl A (up2 M x.2 ((M x.2).1, s)) s else fl A (up2 M s (x.1 - 16, 0)) (s + 1) := rfl
    rw [el] at h2 h5
    show lw_226_0 (A.length + 1 + 1) (nI lvl) G E
    unfold lw_226_0
    rw [h2, if_neg (show ¬ nI ((A ++ P).length + 1) ≤ 0 from nI_ge (a := 0) (by omega) (by omega)), show nI ((A ++ P).length + 1) - 1 = nI (A ++ P).length from nI_sub (c := 1) (by omega)]
    have gd : ¬ (nI (A ++ P).length < 0 ∨ 400 ≤ Int32.toNatClampNeg (nI (A ++ P).length)) := nb_gd (by omega) (by decide)
    refine ⟨gd, ?_⟩
    rw [nI_clamp (by omega : (A ++ P).length < 2 ^ 31)] at gd ⊢
    have p1' : G 79 (A ++ P).length = nI x.1 := p1
    have p2' : G 80 (A ++ P).length = nI x.2 := p2
    rw [p1', p2', f225 _ (by omega), h1]
    refine am_ifn (fun q => by have := (nb_lt (by omega) (by omega)).mp q; omega) ⟨gd, ?_⟩
    have step : ao x = true → lw_226_0 (A.length + 1) (nI lvl) (am_u (am_u G 66 29 (nI (A ++ P).length)) 78 (Int32.toNatClampNeg (nI x.2)) (nI s)) E := by
      intro c
      rw [if_pos c] at ef ew
      rw [ef] at hE
      rw [nI_clamp (by omega : x.2 < 2 ^ 31)]
      refine l226 (g := g) hl hl2 hP A _ (up2 M x.2 ((M x.2).1, s)) s ⟨?_, ?_, ?_, by omega, by omega, okE'⟩ (fun gt => ?_) (fun y hy => hA y (List.mem_cons_of_mem _ hy)) (fun G' f6 sb cd => hE G' ⟨fun c c1 c2 c3 => ?_, fun k k1 k2 => ?_⟩ sb cd)
      · rw [uu_c (by decide), uu_n (by decide)]; exact h1
      · rw [uu_c (by decide), uu_e]
      · rw [uu_h (by decide), uu_h (by decide), uu_h (by decide), uu_h (by decide)]; exact p3
      · obtain ⟨cd, oj⟩ := hC gt
        refine ⟨fun k hk => ?_, okJ_ao oj c⟩
        obtain ⟨d1, d2⟩ := cd k hk
        rw [uu_c (by decide), uu_c (by decide)]
        by_cases e : k = x.2
        · rw [e, uu_e, up2_e]
          obtain ⟨j1, j2⟩ := oj x (List.mem_cons_self) c
          rw [e] at d1
          show G 77 x.2 = nI (rpo (!law) (M x.2).1 s) ∧ nI s = nI (rpa (M x.2).1 s)
          rw [(rpo_ao (b := !law) (w := s) (w' := (M x.2).2) j2).1, (rpo_ao (b := !law) (w := s) (w' := s) j2).2]
          exact ⟨d1, rfl⟩
        · rw [uu_n e, uu_c (by decide), up2_n e]
          exact ⟨d1, d2⟩
      · rw [f6.1 c c1 c2 c3, uu_h c3, uu_h c1]
      · rw [f6.2 k k1 k2, uu_c (by decide), uu_n k2]
    have gd2 : ¬ (nI x.2 < 0 ∨ 400 ≤ Int32.toNatClampNeg (nI x.2)) := nb_gd e3 (by decide)
    by_cases c29 : x.1 = 29
    · refine am_ifp (by rw [c29]; rfl) ⟨gd, gd2, step (decide_eq_true (Or.inl c29))⟩
    · refine am_ifn (fun q => c29 ((nb_inj (b := 29) (by omega) (by decide)).mp q)) ⟨gd, ?_⟩
      by_cases c30 : x.1 = 30
      · refine am_ifp (by rw [c30]; rfl) ⟨gd, gd2, step (decide_eq_true (Or.inr c30))⟩
      · refine am_ifn (fun q => c30 ((nb_inj (b := 30) (by omega) (by decide)).mp q)) ⟨gd, ?_⟩
        have c : ¬ ao x = true := fun q => by
          rcases of_decide_eq_true q with q | q
          · exact c29 q
          · exact c30 q
        have x28 : x.1 ≤ 28 := by
          by_cases y : x.1 ≤ 28
          · exact y
          · have : bnN x.1 = 0 := by
              unfold bnN
              rw [if_pos (by omega)]
            omega
        rw [if_neg c] at ef ew
        rw [ef] at hE
        unfold w_222
        have s23 : am_u G 66 29 (nI (A ++ P).length) 66 23 = nI s := by rw [uu_n (by decide)]; exact h1
        rw [s23]
        refine ⟨nb_gd (by omega) (by decide), nb_gd (by omega) (by decide), ?_⟩
        rw [nI_clamp (by omega : s < 2 ^ 31), ← nI_succ]
        refine l226 (g := g) hl hl2 hP A _ (up2 M s (x.1 - 16, 0)) (s + 1) ⟨uu_e, ?_, ?_, by omega, by omega, okE'⟩ (fun gt => ?_) (fun y hy => hA y (List.mem_cons_of_mem _ hy)) (fun G' f6 sb cd => hE G' ⟨fun c c1 c2 c3 => ?_, fun k k1 k2 => ?_⟩ sb cd)
        · rw [uu_n (by decide), uu_c (by decide), uu_c (by decide), uu_e]
        · rw [uu_h (by decide), uu_h (by decide), uu_h (by decide), uu_h (by decide), uu_h (by decide), uu_h (by decide), uu_h (by decide), uu_h (by decide)]; exact p3
        · obtain ⟨cd, oj⟩ := hC gt
          refine ⟨fun k hk => ?_, okJ_no oj⟩
          obtain ⟨r1, r2⟩ := rpo_s x.1 e1 x28 (!law)
          by_cases e : k = s
          · refine ⟨?_, ?_⟩
            · rw [e, uu_c (by decide), uu_c (by decide), uu_e, up2_e]
              exact (congrArg nI r1).symm
            · rw [e, uu_c (by decide), uu_e, up2_e]
              exact (congrArg nI r2).symm
          · refine ⟨?_, ?_⟩
            · rw [uu_c (by decide), uu_c (by decide), uu_n e, uu_c (by decide), up2_n e]
              exact (cd k (by omega)).1
            · rw [uu_c (by decide), uu_n e, uu_c (by decide), uu_c (by decide), up2_n e]
              exact (cd k (by omega)).2
        · rw [f6.1 c c1 c2 c3, uu_h c1, uu_h c3, uu_h c2, uu_h c1]
        · rw [f6.2 k k1 k2, uu_n k1, uu_c (by decide), uu_c (by decide), uu_n k2]
theorem spl (lvl : Nat) : ∀ Q : List (Nat × Nat), ∃ A P, Q = A ++ P ∧ (∀ x, x ∈ A → lvl ≤ bnN x.1) ∧ toplt lvl P
  | [] => ⟨[], [], rfl, fun x hx => absurd hx (by simp), trivial⟩
  | x :: t => by
    by_cases c : bnN x.1 < lvl
    · exact ⟨[], x :: t, rfl, fun y hy => absurd hy (by simp), c⟩
    · obtain ⟨A, P, h1, h2, h3⟩ := spl lvl t
      refine ⟨x :: A, P, by rw [h1]; rfl, fun y hy => ?_, h3⟩
      rcases List.mem_cons.mp hy with e | e
      · rw [e]; omega
      · exact h2 y e
/-- topmost bracket -/
def inr : List (Nat × Nat) → Int32
  | [] => -1
  | x :: t => if 31 ≤ x.1 then nI x.1 else inr t
theorem l227 {G : am_I} {Q : List (Nat × Nat)} {s : Nat} {E : Int32 → Int32 → Prop} (hS : SB G Q s) (hE : ∀ u, E (inr Q) u) : ∀ (A t : List (Nat × Nat)), Q = A.reverse ++ t → lw_227_4 (A.length + 1) (inr t) (nI t.length) G E
  | [], t, e => by
    have e : Q = t := e
    subst e
    show lw_227_4 1 (inr Q) (nI Q.length) G E
    unfold lw_227_4
    rw [hS.2.1, if_pos (nI_le (Nat.le_refl _) (by have := hS.2.2.2.2.1; omega))]
    exact hE _
  | x :: A, t, e => by
    have e' : Q = A.reverse ++ (x :: t) := by rw [e, List.reverse_cons, List.append_assoc]; rfl
    have ih := l227 hS hE A (x :: t) e'
    have lq : Q.length = A.length + (t.length + 1) := by rw [e', List.length_append, List.length_reverse]; rfl
    have l4 := hS.2.2.2.2.1
    have at1 := hS.2.2.1
    rw [e'] at at1
    have p1 := (PIL_at _ at1).1
    obtain ⟨x1, x2, x3⟩ := hS.2.2.2.2.2 x (by rw [e']; simp)
    show lw_227_4 (A.length + 1 + 1) (inr t) (nI t.length) G E
    unfold lw_227_4
    rw [hS.2.1, if_neg (nI_ge (by omega) (by omega))]
    have gd : ¬ (nI t.length < 0 ∨ 400 ≤ Int32.toNatClampNeg (nI t.length)) := nb_gd (by omega) (by decide)
    refine ⟨gd, ?_⟩
    rw [nI_clamp (by omega : t.length < 2 ^ 31)] at gd ⊢
    rw [p1, ← nI_succ]
    have ei : inr (x :: t) = if 31 ≤ x.1 then nI x.1 else inr t := rfl
    by_cases c : 31 ≤ x.1
    · rw [ei, if_pos c] at ih
      exact am_ifn (fun q => by have := (nb_lt (b := 31) (by omega) (by decide)).mp q; omega) ⟨gd, ih⟩
    · rw [ei, if_neg c] at ih
      exact am_ifp ((nb_lt (b := 31) (by omega) (by decide)).mpr (by omega)) ih
theorem q227 {G : am_I} {Q : List (Nat × Nat)} {s : Nat} {K : Int32 → Prop} (hS : SB G Q s) (hK : K (inr Q)) : w_227 G K := by
  unfold w_227
  exact ⟨Q.reverse.length + 1, l227 (E := fun o1 _ => K o1) hS (fun _ => hK) Q.reverse [] (by rw [List.reverse_reverse, List.append_nil])⟩
theorem inr_app : ∀ (A P : List (Nat × Nat)), (∀ x, x ∈ A → x.1 < 31) → inr (A ++ P) = inr P
  | [], _, _ => rfl
  | x :: A, P, h => by
    show (if 31 ≤ x.1 then nI x.1 else inr (A ++ P)) = inr P
    have := h x (List.mem_cons_self)
    rw [if_neg (by omega), inr_app A P (fun y hy => h y (List.mem_cons_of_mem _ hy))]
/-- was a sign of comparing put already -/
def cmpd : List (Nat × Nat) → Bool
  | [] => false
  | x :: t => if x.1 ≤ 24 then cmpd t else decide (x.1 ≤ 27)
theorem wid {c a b : Nat} (hc : c < 2 ^ 31) (ha : a < 2 ^ 31) (hb : b < 2 ^ 31) : f_182 (Int32.toInt64 (nI c)) (lN a) (lN b) = b1 (decide (a ≤ c ∧ c ≤ b)) := by
  rw [← nI_l ha, ← nI_l hb, q182]
  exact f13n hc ha hb
theorem l228 {G : am_I} {Q : List (Nat × Nat)} {s : Nat} {K : Int32 → Prop} (hS : SB G Q s) : ∀ (t A : List (Nat × Nat)) (w : Int32), Q = A ++ t → w = nI t.length + (-1) → K (b1 (cmpd t)) → lw_228_7 (t.length + 1) w G (fun o1 => if o1 < 0 then K 0 else ¬ (o1 < 0 ∨ 400 ≤ Int32.toNatClampNeg o1) ∧ if (f_182 (Int32.toInt64 (G 79 (Int32.toNatClampNeg o1))) 25 27) = 0 then K 0 else K 1)
  | [], A, w, e, hw, hK => by
    have w0 : w < 0 := by rw [hw]; decide
    show lw_228_7 1 w G _
    unfold lw_228_7
    rw [if_pos w0]
    exact am_ifp w0 hK
  | x :: t, A, w, e, hw, hK => by
    have l4 := hS.2.2.2.2.1
    have at1 := hS.2.2.1
    rw [e] at at1
    have p1 := (PIL_at _ at1).1
    obtain ⟨x1, x2, x3⟩ := hS.2.2.2.2.2 x (by rw [e]; simp)
    have lq : Q.length = A.length + (t.length + 1) := by rw [e, List.length_append]; rfl
    have el : (x :: t).length = t.length + 1 := rfl
    have ec : cmpd (x :: t) = if x.1 ≤ 24 then cmpd t else decide (x.1 ≤ 27) := rfl
    have ew : w = nI t.length := by
      rw [hw, Int32.add_neg_eq_sub, el]
      exact nI_sub (a := t.length + 1) (c := 1) (by omega)
    show lw_228_7 (t.length + 1 + 1) w G _
    unfold lw_228_7
    rw [ew, if_neg (nI_pos (by omega))]
    have gd : ¬ (nI t.length < 0 ∨ 400 ≤ Int32.toNatClampNeg (nI t.length)) := nb_gd (by omega) (by decide)
    refine ⟨gd, ?_⟩
    rw [nI_clamp (by omega : t.length < 2 ^ 31), p1, show f_182 (Int32.toInt64 (nI x.1)) 20 24 = b1 (decide (20 ≤ x.1 ∧ x.1 ≤ 24)) from wid (a := 20) (b := 24) (by omega) (by decide) (by decide)]
    refine ifd (fun c => ?_) (fun c => ?_)
    · rw [ec, if_neg (by omega)] at hK
      refine am_ifn (nI_pos (by omega)) ⟨gd, ?_⟩
      rw [nI_clamp (by omega : t.length < 2 ^ 31), p1, show f_182 (Int32.toInt64 (nI x.1)) 25 27 = b1 (decide (25 ≤ x.1 ∧ x.1 ≤ 27)) from wid (a := 25) (b := 27) (by omega) (by decide) (by decide)]
      refine ifd (fun d => ?_) (fun d => ?_)
      · rw [decide_eq_false (by omega)] at hK
        exact hK
      · rw [decide_eq_true (by omega)] at hK
        exact hK
    · rw [ec, if_pos (by omega)] at hK
      generalize hq : nI t.length + (-1) = w'
      exact l228 hS t (A ++ [x]) w' (by rw [e, List.append_assoc]; rfl) hq.symm hK
theorem q228 {G : am_I} {Q : List (Nat × Nat)} {s : Nat} {K : Int32 → Prop} (hS : SB G Q s) (hK : K (b1 (cmpd Q))) : w_228 G K := by
  unfold w_228
  exact ⟨Q.length + 1, l228 hS Q [] _ rfl (by rw [hS.2.1, Int32.add_neg_eq_sub]) hK⟩
theorem cmpd_ar : ∀ (A P : List (Nat × Nat)), (∀ x, x ∈ A → x.1 ≤ 24) → cmpd (A ++ P) = cmpd P
  | [], _, _ => rfl
  | x :: A, P, h => by
    show (if x.1 ≤ 24 then cmpd (A ++ P) else decide (x.1 ≤ 27)) = cmpd P
    rw [if_pos (h x (List.mem_cons_self)), cmpd_ar A P (fun y hy => h y (List.mem_cons_of_mem _ hy))]
theorem bn_ar {o : Nat} (h : 5 ≤ bnN o) : o ≤ 24 := by
  unfold bnN at h
  by_cases c : o ≤ 24
  · exact c
  · split at h
    · omega
    · split at h
      · omega
      · split at h
        · omega
        · split at h
          · omega
          · rw [if_pos (by omega)] at h
            omega
theorem bn_br {o : Nat} (h : 1 ≤ bnN o) : o < 31 := by
  unfold bnN at h
  split at h <;> omega
def brk : List (Nat × Nat) → Nat
  | [] => 0
  | x :: t => (if 31 ≤ x.1 then 1 else 0) + brk t
theorem brk_app : ∀ (A P : List (Nat × Nat)), (∀ x, x ∈ A → x.1 < 31) → brk (A ++ P) = brk P
  | [], _, _ => rfl
  | x :: A, P, h => by
    show (if 31 ≤ x.1 then 1 else 0) + brk (A ++ P) = brk P
    have := h x (List.mem_cons_self)
    rw [if_neg (by omega), brk_app A P (fun y hy => h y (List.mem_cons_of_mem _ hy))]
    omega
