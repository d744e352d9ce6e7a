/-! rota: on paper -/
def shr : List Nat → Nat
  | [] => 0
  | p :: h => shr h + 8 ^ p
theorem shr_sum : ∀ h : List Nat, (∀ p ∈ h, p < 8) → shr h = h.count 0 + 8 * h.count 1 + 64 * h.count 2 + 512 * h.count 3 + 4096 * h.count 4 + 32768 * h.count 5 + 262144 * h.count 6 + 2097152 * h.count 7
  | [], _ => rfl
  | p :: h, hp => by
    have ih := shr_sum h (fun q hq => hp q (List.mem_cons_of_mem _ hq))
    have hlt : p < 8 := hp p List.mem_cons_self
    show shr h + 8 ^ p = _
    rw [ih]
    simp only [List.count_cons]
    rcases (by omega : p = 0 ∨ p = 1 ∨ p = 2 ∨ p = 3 ∨ p = 4 ∨ p = 5 ∨ p = 6 ∨ p = 7) with rfl | rfl | rfl | rfl | rfl | rfl | rfl | rfl <;> simp <;> omega
theorem shr_dig {h : List Nat} (hp : ∀ p ∈ h, p < 8) (hl : h.length ≤ 6) {p : Nat} (p8 : p < 8) : shr h / 8 ^ p % 8 = h.count p := by
  have s := shr_sum h hp
  have c0 := @List.count_le_length Nat _ 0 h
  have c1 := @List.count_le_length Nat _ 1 h
  have c2 := @List.count_le_length Nat _ 2 h
  have c3 := @List.count_le_length Nat _ 3 h
  have c4 := @List.count_le_length Nat _ 4 h
  have c5 := @List.count_le_length Nat _ 5 h
  have c6 := @List.count_le_length Nat _ 6 h
  have c7 := @List.count_le_length Nat _ 7 h
  rcases (by omega : p = 0 ∨ p = 1 ∨ p = 2 ∨ p = 3 ∨ p = 4 ∨ p = 5 ∨ p = 6 ∨ p = 7) with rfl | rfl | rfl | rfl | rfl | rfl | rfl | rfl <;> simp only [Nat.reducePow] <;> omega
theorem shr_le : ∀ h : List Nat, (∀ p ∈ h, p < 8) → shr h ≤ h.length * 2097152
  | [], _ => Nat.le_refl _
  | p :: h, hp => by
    have ih := shr_le h (fun q hq => hp q (List.mem_cons_of_mem _ hq))
    have hlt : p < 8 := hp p List.mem_cons_self
    have k : 8 ^ p ≤ 8 ^ 7 := Nat.pow_le_pow_right (by decide) (by omega)
    have k7 : 8 ^ 7 = 2097152 := rfl
    show shr h + 8 ^ p ≤ (h.length + 1) * 2097152
    omega
theorem b_nI {a : Nat} {i : Nat} (hi : i < 32) : bt (nI a) i = a.testBit i := by
  unfold bt
  show (BitVec.ofNat 32 a).getLsbD i = a.testBit i
  rw [BitVec.getLsbD_ofNat]
  simp [hi]
theorem b_7 : ∀ i, i < 32 → bt 7 i = decide (i < 3) := by decide +kernel
theorem dig_i {a p : Nat} (ha : a < 2 ^ 31) (hp : p < 8) : ((nI a) >>> ((3 * nI p) &&& 31)) &&& 7 = nI (a / 8 ^ p % 8) := by
  have e3 : (3 : Int32) * nI p = nI (3 * p) := nb_mul 3 p
  rw [e3]
  refine b_ext (fun i hi => ?_)
  rw [b_and, b_sshr (3 * p) (by omega) _ hi, b_7 i hi, b_nI hi, show (8 : Nat) ^ p = 2 ^ (3 * p) by rw [Nat.pow_mul], show (8 : Nat) = 2 ^ 3 from rfl, Nat.testBit_mod_two_pow, Nat.testBit_div_two_pow]
  by_cases k : i < 3
  · rw [if_pos (by omega), b_nI (by omega), decide_eq_true k, Bool.and_true, Bool.true_and, Nat.add_comm]
  · rw [decide_eq_false k, Bool.and_false, Bool.false_and]
theorem f137 : ∀ p, p < 8 → f_137 (nI p) = nI (8 ^ p) := by decide +kernel
theorem dig_h {h : List Nat} (hp : ∀ p ∈ h, p < 8) (hl : h.length ≤ 6) {p : Nat} (p8 : p < 8) : ((nI (shr h)) >>> ((3 * nI p) &&& 31)) &&& 7 = nI (h.count p) := by
  have k := shr_le h hp
  rw [dig_i (by omega) p8, shr_dig hp hl p8]
/-- what it costs to have p next, none where p may not -/
abbrev PRI : Type := Nat → Nat → Nat → Option Nat
def okp (P : PRI) (M : Nat) (h : List Nat) (p : Nat) : Option Nat := if h.count p < M then P p h.length (if h.head? = some p then 1 else 0) else none
def fd (g : Nat → Option (Nat × Nat)) : Nat → Nat × Nat × Nat
  | 0 => (1000000, 0, 0)
  | j + 1 => match g j with
    | none => fd g j
    | some x => (if x.1 < (fd g j).1 then x.1 else (fd g j).1, (fd g j).2.1 + x.2, if x.1 < (fd g j).1 then j else (fd g j).2.2)
def chd (P : PRI) (M : Nat) (W : List Nat → Nat × Nat × Nat) (h : List Nat) (p : Nat) : Option (Nat × Nat) := match okp P M h p with
  | none => none
  | some c => some (c + (W (p :: h)).1, (W (p :: h)).2.1)
def wy (P : PRI) (m M : Nat) : Nat → List Nat → Nat × Nat × Nat
  | 0, _ => (0, 1, 0)
  | n + 1, h => fd (chd P M (wy P m M n) h) m
def pk (P : PRI) (m M : Nat) : Nat → List Nat → List Nat
  | 0, _ => []
  | n + 1, h => (wy P m M (n + 1) h).2.2 :: pk P m M n ((wy P m M (n + 1) h).2.2 :: h)
theorem fd_cg {g g' : Nat → Option (Nat × Nat)} : ∀ m, (∀ p, p < m → g p = g' p) → fd g m = fd g' m
  | 0, _ => rfl
  | m + 1, e => by
    show (match g m with | none => fd g m | some x => _) = (match g' m with | none => fd g' m | some x => _)
    rw [fd_cg m (fun p hp => e p (by omega)), e m (by omega)]
theorem wy_cg {P : PRI} {m M : Nat} : ∀ n h h', (∀ p, h.count p = h'.count p) → h.length = h'.length → h.head? = h'.head? → wy P m M n h = wy P m M n h'
  | 0, _, _, _, _, _ => rfl
  | n + 1, h, h', e1, e2, e3 => by
    refine fd_cg m (fun p _ => ?_)
    unfold chd okp
    rw [e1 p, e2, e3, wy_cg n (p :: h) (p :: h') (fun q => by rw [List.count_cons, List.count_cons, e1 q]) (by rw [List.length_cons, List.length_cons, e2]) rfl]
/-- nothing costs 1000000 or more; with no way it is just that -/
def gz (B : Nat) (x : Nat × Nat × Nat) : Prop := (x.2.1 = 0 ∧ x.1 = 1000000) ∨ (0 < x.2.1 ∧ x.1 ≤ B)
theorem fd_gz {g : Nat → Option (Nat × Nat)} {B : Nat} (hB : B < 1000000) : ∀ m, (∀ p x, p < m → g p = some x → (x.2 = 0 ∧ 1000000 ≤ x.1) ∨ (0 < x.2 ∧ x.1 ≤ B)) → gz B (fd g m)
  | 0, _ => Or.inl ⟨rfl, rfl⟩
  | m + 1, e => by
    have ih := fd_gz hB m (fun p x hp => e p x (by omega))
    cases hg : g m with
    | none =>
      have k : fd g (m + 1) = fd g m := by show (match g m with | none => fd g m | some x => _) = _; rw [hg]
      rw [k]; exact ih
    | some x =>
      have k : fd g (m + 1) = (if x.1 < (fd g m).1 then x.1 else (fd g m).1, (fd g m).2.1 + x.2, if x.1 < (fd g m).1 then m else (fd g m).2.2) := by show (match g m with | none => fd g m | some x => _) = _; rw [hg]
      rw [k]
      rcases e m x (by omega) hg with ⟨a, b⟩ | ⟨a, b⟩
      · rcases ih with ⟨c, d⟩ | ⟨c, d⟩
        · refine Or.inl ⟨by show _ + _ = 0; omega, ?_⟩
          show (if x.1 < (fd g m).1 then x.1 else (fd g m).1) = _
          rw [if_neg (by omega), d]
        · refine Or.inr ⟨by show 0 < _ + _; omega, ?_⟩
          show (if x.1 < (fd g m).1 then x.1 else (fd g m).1) ≤ _
          rw [if_neg (by omega)]
          exact d
      · refine Or.inr ⟨by show 0 < _ + _; omega, ?_⟩
        show (if x.1 < (fd g m).1 then x.1 else (fd g m).1) ≤ _
        by_cases q : x.1 < (fd g m).1
        · rw [if_pos q]; exact b
        · rw [if_neg q]; omega
theorem chd_gz {P : PRI} {m M n : Nat} (hP : ∀ p w b c, P p w b = some c → c ≤ 1000) {h : List Nat} (hw : ∀ p, gz (1000 * n) (wy P m M n (p :: h)) ) : ∀ p x, chd P M (wy P m M n) h p = some x → (x.2 = 0 ∧ 1000000 ≤ x.1) ∨ (0 < x.2 ∧ x.1 ≤ 1000 * (n + 1)) := by
  intro p x hx
  unfold chd at hx
  cases ho : okp P M h p with
  | none => rw [ho] at hx; exact absurd hx (by simp)
  | some c =>
    rw [ho] at hx
    have hx : some (c + (wy P m M n (p :: h)).1, (wy P m M n (p :: h)).2.1) = some x := hx
    have hx := (Option.some.inj hx).symm
    subst hx
    have hc : c ≤ 1000 := by
      unfold okp at ho
      by_cases q : h.count p < M
      · rw [if_pos q] at ho; exact hP _ _ _ _ ho
      · rw [if_neg q] at ho; exact absurd ho (by simp)
    rcases hw p with ⟨a, b⟩ | ⟨a, b⟩
    · refine Or.inl ⟨a, ?_⟩
      show 1000000 ≤ c + _
      omega
    · refine Or.inr ⟨a, ?_⟩
      show c + _ ≤ _
      omega
theorem wy_gz {P : PRI} {m M : Nat} (hP : ∀ p w b c, P p w b = some c → c ≤ 1000) : ∀ n h, n ≤ 6 → gz (1000 * n) (wy P m M n h)
  | 0, _, _ => Or.inr ⟨Nat.zero_lt_one, Nat.zero_le _⟩
  | n + 1, h, hn => fd_gz (by omega) m (fun p x _ hx => chd_gz hP (fun p => wy_gz hP n (p :: h) (by omega)) p x hx)
theorem fd_ways {g : Nat → Option (Nat × Nat)} {B : Nat} : ∀ m, (∀ p x, p < m → g p = some x → x.2 ≤ B) → (fd g m).2.1 ≤ m * B
  | 0, _ => Nat.zero_le _
  | m + 1, e => by
    have ih := fd_ways m (fun p x hp => e p x (by omega))
    have k2 : (m + 1) * B = m * B + B := Nat.succ_mul m B
    cases hg : g m with
    | none =>
      have k : fd g (m + 1) = fd g m := by show (match g m with | none => fd g m | some x => _) = _; rw [hg]
      rw [k]; omega
    | some x =>
      have k : (fd g (m + 1)).2.1 = (fd g m).2.1 + x.2 := by show (match g m with | none => fd g m | some x => _).2.1 = _; rw [hg]
      rw [k]
      have := e m x (by omega) hg
      omega
theorem wy_ways {P : PRI} {m M : Nat} (hm : m ≤ 8) : ∀ n h, (wy P m M n h).2.1 ≤ 8 ^ n
  | 0, _ => Nat.le_refl _
  | n + 1, h => by
    have k := fd_ways (g := chd P M (wy P m M n) h) (B := 8 ^ n) m (fun p x _ hx => by
      unfold chd at hx
      cases ho : okp P M h p with
      | none => rw [ho] at hx; exact absurd hx (by simp)
      | some c =>
        rw [ho] at hx
        have hx : some (c + (wy P m M n (p :: h)).1, (wy P m M n (p :: h)).2.1) = some x := hx
        have hx := (Option.some.inj hx).symm
        subst hx
        exact wy_ways hm n (p :: h))
    have e : m * 8 ^ n ≤ 8 * 8 ^ n := Nat.mul_le_mul_right _ hm
    have e2 : 8 ^ (n + 1) = 8 * 8 ^ n := by rw [Nat.pow_succ, Nat.mul_comm]
    show (fd _ m).2.1 ≤ _
    omega
theorem fd_pick {g : Nat → Option (Nat × Nat)} : ∀ m, 0 < m → (fd g m).2.2 < m
  | 0, h => absurd h (by decide)
  | m + 1, _ => by
    have ih : (fd g m).2.2 < m + 1 := by
      rcases Nat.eq_zero_or_pos m with q | q
      · subst q; show 0 < 1; decide
      · have := fd_pick (g := g) m q; omega
    cases hg : g m with
    | none =>
      have k : fd g (m + 1) = fd g m := by show (match g m with | none => fd g m | some x => _) = _; rw [hg]
      rw [k]; exact ih
    | some x =>
      have k : (fd g (m + 1)).2.2 = if x.1 < (fd g m).1 then m else (fd g m).2.2 := by show (match g m with | none => fd g m | some x => _).2.2 = _; rw [hg]
      rw [k]
      by_cases q : x.1 < (fd g m).1
      · rw [if_pos q]; omega
      · rw [if_neg q]; exact ih
