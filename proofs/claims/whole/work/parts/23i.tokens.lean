/-! tokens: words as numbers, base 32 -/
def wvn (b : Nat → Nat) (p : Nat) : Nat → Nat
  | 0 => 0
  | k + 1 => wvn b p k * 32 + (b (p + k) - 96)
theorem wvn_inj {b c : Nat → Nat} {p s : Nat} : ∀ k l, (∀ i, i < k → 97 ≤ b (p + i) ∧ b (p + i) ≤ 122) → (∀ i, i < l → 97 ≤ c (s + i) ∧ c (s + i) ≤ 122) → wvn b p k = wvn c s l → k = l ∧ ∀ i, i < k → b (p + i) = c (s + i)
  | 0, 0, _, _, _ => ⟨rfl, fun i h => absurd h (by omega)⟩
  | 0, l + 1, _, h2, e => by
    have e : 0 = wvn c s l * 32 + (c (s + l) - 96) := e
    have := h2 l (by omega)
    omega
  | k + 1, 0, h1, _, e => by
    have e : wvn b p k * 32 + (b (p + k) - 96) = 0 := e
    have := h1 k (by omega)
    omega
  | k + 1, l + 1, h1, h2, e => by
    have e : wvn b p k * 32 + (b (p + k) - 96) = wvn c s l * 32 + (c (s + l) - 96) := e
    have a1 := h1 k (by omega)
    have a2 := h2 l (by omega)
    obtain ⟨i1, i2⟩ := wvn_inj k l (fun i hi => h1 i (by omega)) (fun i hi => h2 i (by omega)) (by omega)
    subst i1
    refine ⟨rfl, fun i hi => ?_⟩
    by_cases z : i = k
    · subst z; omega
    · exact i2 i (by omega)
theorem wvn_cg {b c : Nat → Nat} {p s : Nat} : ∀ k, (∀ i, i < k → b (p + i) = c (s + i)) → wvn b p k = wvn c s k
  | 0, _ => rfl
  | k + 1, h => by
    show wvn b p k * 32 + (b (p + k) - 96) = wvn c s k * 32 + (c (s + k) - 96)
    rw [wvn_cg k (fun i hi => h i (by omega)), h k (by omega)]
theorem wvn_ge {b : Nat → Nat} {p : Nat} : ∀ k, (∀ i, i < k → 97 ≤ b (p + i) ∧ b (p + i) ≤ 122) → 32 ^ k ≤ 32 * wvn b p k + 1
  | 0, _ => Nat.le_refl _
  | k + 1, h => by
    have ih := wvn_ge k (fun i hi => h i (by omega))
    have a := h k (by omega)
    show 32 ^ k * 32 ≤ 32 * (wvn b p k * 32 + (b (p + k) - 96)) + 1
    omega
def wlen : List Nat := [5, 5, 5, 4, 2, 4, 7, 4, 2, 5, 2, 2, 2, 2, 3, 3, 6, 5, 4, 4, 5, 6, 6, 4, 4, 4, 5, 6, 4, 5, 5, 5]
def oks : Nat → List Nat → Bool
  | s, [] => decide (s = wsL)
  | s, n :: t => decide (wsC (s + n) = 32 ∧ ∀ j, j < n → 97 ≤ wsC (s + j) ∧ wsC (s + j) ≤ 122) && oks (s + n + 1) t
theorem oks_ok : oks 0 wlen = true := by decide +kernel
theorem wof_sk {b : Nat → Nat} {p l : Nat} : ∀ k f w s i, (∀ j, j < k → wsC (i + j) ≠ 32) → wof b p l (f + k) w s i = wof b p l f w s (i + k)
  | 0, _, _, _, _, _ => rfl
  | k + 1, f, w, s, i, h => by
    show (if wsC i = 32 then (if i - s = l ∧ eqw b p s l = true then w else wof b p l (f + k) (w + 1) (i + 1) (i + 1)) else wof b p l (f + k) w s (i + 1)) = _
    rw [if_neg (show ¬ wsC i = 32 from h 0 (by omega)), wof_sk k f w s (i + 1) (fun j hj => by rw [Nat.add_assoc, Nat.add_comm 1 j]; exact h (j + 1) (by omega)), Nat.add_assoc, Nat.add_comm 1 k]
def wofT (b : Nat → Nat) (p l : Nat) : Nat → Nat → List Nat → Nat
  | w, _, [] => w
  | w, s, n :: t => if n = l ∧ eqw b p s l = true then w else wofT b p l (w + 1) (s + n + 1) t
def lsum : List Nat → Nat
  | [] => 0
  | n :: t => lsum t + 1 + n
theorem wof_T {b : Nat → Nat} {p l : Nat} : ∀ t s w, oks s t = true → wof b p l (lsum t) w s s = wofT b p l w s t
  | [], _, _, _ => rfl
  | n :: t, s, w, h => by
    have h : (decide (wsC (s + n) = 32 ∧ ∀ j, j < n → 97 ≤ wsC (s + j) ∧ wsC (s + j) ≤ 122) && oks (s + n + 1) t) = true := h
    rw [Bool.and_eq_true] at h
    obtain ⟨h1, h2⟩ := h
    have h1 := of_decide_eq_true h1
    show wof b p l (lsum t + 1 + n) w s s = _
    rw [wof_sk n (lsum t + 1) w s s (fun j hj => by have := h1.2 j hj; omega)]
    show (if wsC (s + n) = 32 then (if s + n - s = l ∧ eqw b p s l = true then w else wof b p l (lsum t) (w + 1) (s + n + 1) (s + n + 1)) else wof b p l (lsum t) w s (s + n + 1)) = (if n = l ∧ eqw b p s l = true then w else wofT b p l (w + 1) (s + n + 1) t)
    rw [if_pos h1.1, Nat.add_sub_cancel_left, wof_T t (s + n + 1) (w + 1) h2]
def fidx (v : Nat) : List Nat → Nat
  | [] => 0
  | x :: t => if x = v then 0 else fidx v t + 1
def wtb : Nat → List Nat → List Nat
  | _, [] => []
  | s, n :: t => wvn wsC s n :: wtb (s + n + 1) t
theorem wofT_f {b : Nat → Nat} {p l : Nat} (hb : ∀ i, i < l → 97 ≤ b (p + i) ∧ b (p + i) ≤ 122) : ∀ t s w, oks s t = true → wofT b p l w s t = w + fidx (wvn b p l) (wtb s t)
  | [], _, _, _ => rfl
  | n :: t, s, w, h => by
    have h : (decide (wsC (s + n) = 32 ∧ ∀ j, j < n → 97 ≤ wsC (s + j) ∧ wsC (s + j) ≤ 122) && oks (s + n + 1) t) = true := h
    rw [Bool.and_eq_true] at h
    obtain ⟨h1, h2⟩ := h
    have h1 := of_decide_eq_true h1
    show (if n = l ∧ eqw b p s l = true then w else wofT b p l (w + 1) (s + n + 1) t) = w + (if wvn wsC s n = wvn b p l then 0 else fidx (wvn b p l) (wtb (s + n + 1) t) + 1)
    rw [wofT_f hb t (s + n + 1) (w + 1) h2]
    by_cases c : wvn wsC s n = wvn b p l
    · obtain ⟨c1, c2⟩ := wvn_inj n l h1.2 hb c
      subst c1
      rw [if_pos c, if_pos ⟨rfl, decide_eq_true (fun j hj => (c2 j hj).symm)⟩]
      rfl
    · rw [if_neg c, if_neg (fun q => c ?_)]
      · omega
      · obtain ⟨q1, q2⟩ := q
        subst q1
        exact wvn_cg n (fun i hi => (of_decide_eq_true q2 i hi).symm)
def WC : List Nat := [3657363, 7382483, 6600883, 67155, 239, 239301, 10153890932, 754996, 294, 21279923, 89, 486, 655, 498, 1476, 14836, 542723566, 26379859, 755156, 366387, 24170600, 72564293, 524555859, 278194, 495763, 441828, 2692132, 317301893, 146885, 6804932, 17171557, 8892563]
theorem wtb_ok : wtb 0 wlen = WC := by decide +kernel
theorem lsum_ok : lsum wlen = wsL := by decide +kernel
theorem WC_f : ∀ j, j < 32 → fidx (WC.getD j 0) WC = j := by decide +kernel
theorem WC_lt : ∀ j, j < 32 → WC.getD j 0 < 1125899906842623 := by decide +kernel
theorem fidx_le (v : Nat) : ∀ t, fidx v t ≤ t.length
  | [] => Nat.le_refl _
  | x :: t => by
    have := fidx_le v t
    show (if x = v then 0 else fidx v t + 1) ≤ t.length + 1
    split <;> omega
theorem fidx_v {v : Nat} : ∀ t j, fidx v t = j → j < t.length → t.getD j 0 = v
  | [], _, _, h => absurd h (by simp)
  | x :: t, j, e, h => by
    have e : (if x = v then 0 else fidx v t + 1) = j := e
    by_cases c : x = v
    · rw [if_pos c] at e
      subst e
      exact c
    · rw [if_neg c] at e
      subst e
      have h : fidx v t + 1 < t.length + 1 := h
      exact fidx_v t _ rfl (by omega)
theorem wof_v {b : Nat → Nat} {p l : Nat} (hb : ∀ i, i < l → 97 ≤ b (p + i) ∧ b (p + i) ≤ 122) : wof b p l wsL 0 0 0 ≤ 32 ∧ ∀ j, j < 32 → (wof b p l wsL 0 0 0 = j ↔ wvn b p l = WC.getD j 0) := by
  have e : wof b p l wsL 0 0 0 = fidx (wvn b p l) WC := by
    have h1 := wof_T (b := b) (p := p) (l := l) wlen 0 0 oks_ok
    have h2 := wofT_f hb wlen 0 0 oks_ok
    rw [lsum_ok] at h1
    rw [h1, h2, wtb_ok, Nat.zero_add]
  rw [e]
  refine ⟨fidx_le _ WC, fun j hj => ⟨fun h => (fidx_v WC j h hj).symm, fun h => ?_⟩⟩
  rw [h]
  exact WC_f j hj
theorem wvn_big {b : Nat → Nat} {p l : Nat} (hb : ∀ i, i < l → 97 ≤ b (p + i) ∧ b (p + i) ≤ 122) (hl : 10 < l) : ∀ j, j < 32 → wvn b p l ≠ WC.getD j 0 := by
  intro j hj e
  have h1 := wvn_ge l hb
  have h2 := WC_lt j hj
  have h3 : 32 ^ 11 ≤ 32 ^ l := Nat.pow_le_pow_right (by decide) hl
  rw [e] at h1
  omega
theorem wvn_up {b : Nat → Nat} {p : Nat} : ∀ k, (∀ i, i < k → 97 ≤ b (p + i) ∧ b (p + i) ≤ 122) → wvn b p k + 1 ≤ 32 ^ k
  | 0, _ => Nat.le_refl _
  | k + 1, h => by
    have ih := wvn_up k (fun i hi => h i (by omega))
    have a := h k (by omega)
    show wvn b p k * 32 + (b (p + k) - 96) + 1 ≤ 32 ^ k * 32
    omega
theorem wvn_lt {b : Nat → Nat} {p l : Nat} (hb : ∀ i, i < l → 97 ≤ b (p + i) ∧ b (p + i) ≤ 122) (hl : l ≤ 10) : wvn b p l < 2 ^ 62 := by
  have h1 := wvn_up l hb
  have h3 : 32 ^ l ≤ 32 ^ 10 := Nat.pow_le_pow_right (by decide) hl
  omega
