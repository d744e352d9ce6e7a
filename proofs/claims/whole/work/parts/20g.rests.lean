/-! rests -/
theorem g20 {x : Int32} {d : Nat} (hd : d < 32) : f_20 x (nI d) = b1 (bt x d) := by
  unfold f_20
  refine b_ext (fun i hi => ?_)
  rw [b_and, b_sshr d hd _ hi, show (1 : Int32) = nI 1 from rfl, bt_n _ _ hi]
  by_cases h0 : i = 0
  · subst h0
    rw [Nat.add_zero, if_pos hd, show Nat.testBit 1 0 = true from rfl, Bool.and_true]
    cases bt x d <;> rfl
  · rw [show Nat.testBit 1 i = false from Nat.testBit_lt_two_pow (Nat.one_lt_two_pow h0), Bool.and_false]
    cases bt x d
    · exact (b_0 i).symm
    · show false = bt (nI 1) i
      rw [bt_n _ _ hi]
      exact (Nat.testBit_lt_two_pow (Nat.one_lt_two_pow h0)).symm
theorem g21 {x : Int32} {d b i : Nat} (hd : d < 31) (hb : b < 2) (hi : i < 32) : bt (f_21 x (nI d) (nI b)) i = if i = d then decide (b = 1) else bt x i := by
  have p : ∀ i, i < 32 → bt (nI (2 ^ d)) i = decide (d = i) := fun i hi => by
    rw [bt_n _ _ hi, Nat.testBit_two_pow]
  unfold f_21
  rcases (by omega : b = 0 ∨ b = 1) with rfl | rfl
  · rw [if_neg (by decide), q1s d hd, b_and, b_xor, p i hi, b_m1 i hi]
    by_cases e : i = d
    · rw [if_pos e, e]
      simp
    · rw [if_neg e, decide_eq_false (fun q => e q.symm)]
      simp
  · rw [if_pos (show nI 1 = 1 from rfl), q1s d hd, b_or, p i hi]
    by_cases e : i = d
    · rw [if_pos e, e]
      simp
    · rw [if_neg e, decide_eq_false (fun q => e q.symm)]
      simp
def n1 (b : Bool) : Nat := if b then 1 else 0
theorem n1_lt (b : Bool) : n1 b < 2 := by cases b <;> decide
theorem n1_b1 (b : Bool) : b1 b = nI (n1 b) := by cases b <;> rfl
/-- who is out, when j have done what is so for them -/
def rdO (S : Nat → Nat → Bool) (w : Nat) : Nat → Nat
  | 0 => w
  | j + 1 => sb (rdO S w j) j (n1 (S j (pc (sb (rdO S w j) j 0))))
def rdC (S : Nat → Nat → Bool) (w : Nat) : Nat → Bool
  | 0 => false
  | j + 1 => rdC S w j || !decide (n1 (S j (pc (sb (rdO S w j) j 0))) = bi (rdO S w j) j)
theorem rdO_lt {S : Nat → Nat → Bool} {w m : Nat} (hm : m ≤ 8) (hw : w < 2 ^ m) : ∀ j, j ≤ m → rdO S w j < 2 ^ m
  | 0, _ => hw
  | j + 1, hj => sb_lt (rdO_lt hm hw j (by omega)) (by omega) (by omega) (n1_lt _)
def pskx (w d : Nat) : Bool := decide (pc (sb w d 0) + bi w d = pc w ∧ pc (sb w d 0) ≤ 7)
theorem psk_all : ∀ a, a < 16 → ∀ b, b < 16 → ∀ d, d < 8 → pskx (16 * a + b) d = true := by decide +kernel
theorem psk {w d : Nat} (hw : w < 256) (hd : d < 8) : pc (sb w d 0) + bi w d = pc w ∧ pc (sb w d 0) ≤ 7 := by
  have q := psk_all (w / 16) (by omega) (w % 16) (by omega) d hd
  rw [show 16 * (w / 16) + w % 16 = w by omega] at q
  exact of_decide_eq_true q
/-- rounds -/
def rrO (S : Nat → Nat → Bool) (m : Nat) : Nat → Nat
  | 0 => 0
  | i + 1 => rdO S (rrO S m i) m
def rrC (S : Nat → Nat → Bool) (m : Nat) : Nat → Bool
  | 0 => true
  | i + 1 => rdC S (rrO S m i) m
theorem rrO_lt {S : Nat → Nat → Bool} {m : Nat} (hm : m ≤ 8) : ∀ i, rrO S m i < 2 ^ m
  | 0 => Nat.two_pow_pos m
  | i + 1 => rdO_lt hm (rrO_lt hm i) m (Nat.le_refl m)
def frQ (I G : am_I) : Prop := (∀ c, c ≠ 23 → c ≠ 24 → c ≠ 25 → c ≠ 26 → c ≠ 27 → c ≠ 28 → G c = I c) ∧ ∀ k, k ≠ 1 → k ≠ 2 → G 23 k = I 23 k
def ask7 (S : Nat → Nat → Bool) (m : Nat) (G : am_I) : Prop := ∀ p k, p < m → k ≤ 7 → bt (G 27 p) k = true → bt (G 28 p) k = S p k
def S0 (I : am_I) (fx : Option LWX) : Nat → Nat → Bool := fun p k => sty I fx p (k : Int)
theorem sty_cg {I G : am_I} {fx : Option LWX} (h4 : G 4 = I 4) (h5 : G 5 = I 5) (h12 : G 12 = I 12) (h68 : G 68 = I 68) (p : Nat) (k : Int) : sty G fx p k = sty I fx p k := by
  unfold sty
  rw [h4, h5, h12, h68]
theorem c146 {T : Nat → Nat × Nat} {r : Nat → Nat → Option Nat} {I G : am_I} {fx : Option LWX} {m p k : Nat} {K : Int32 → am_I → Prop} (h : PWd I m p) (hc : ∀ G, (∀ c, c ≠ 23 → c ≠ 24 → c ≠ 25 → c ≠ 26 → c ≠ 27 → c ≠ 28 → G c = I c) → ∀ K : Option Nat → Prop, (∀ o, LOc T r G o fx → K o) → w_108 (G 1 16) T r G K) (hk : k ≤ 7) (hG : frQ I G) (ha : ask7 (S0 I fx) m G) (hK : ∀ H, frQ I H → H 23 = G 23 → ask7 (S0 I fx) m H → K (b1 (S0 I fx p k)) H) : w_146 (nI p) (nI k) T r G K := by
  have hp := h.2.1
  have hm := h.1
  have hP : PWd G m p := PWd_cg h (hG.1 1 (by decide) (by decide) (by decide) (by decide) (by decide) (by decide)) (hG.1 4 (by decide) (by decide) (by decide) (by decide) (by decide) (by decide)) (hG.1 5 (by decide) (by decide) (by decide) (by decide) (by decide) (by decide)) (hG.1 7 (by decide) (by decide) (by decide) (by decide) (by decide) (by decide)) (hG.1 12 (by decide) (by decide) (by decide) (by decide) (by decide) (by decide)) (hG.1 68 (by decide) (by decide) (by decide) (by decide) (by decide) (by decide)) (by rw [hG.1 66 (by decide) (by decide) (by decide) (by decide) (by decide) (by decide)])
  have es : sty G fx p (k : Int) = S0 I fx p k := sty_cg (hG.1 4 (by decide) (by decide) (by decide) (by decide) (by decide) (by decide)) (hG.1 5 (by decide) (by decide) (by decide) (by decide) (by decide) (by decide)) (hG.1 12 (by decide) (by decide) (by decide) (by decide) (by decide) (by decide)) (hG.1 68 (by decide) (by decide) (by decide) (by decide) (by decide) (by decide)) p k
  have g8 : ¬ (nI p < 0 ∨ 8 ≤ Int32.toNatClampNeg (nI p)) := nb_gd (by omega) (by decide)
  unfold w_146
  rw [nI_clamp (by omega : p < 2 ^ 31)] at g8 ⊢
  refine ⟨g8, ?_⟩
  rw [g20 (by omega)]
  cases hb : bt (G 27 p) k with
  | true =>
    rw [if_neg (by decide)]
    refine ⟨g8, ?_⟩
    rw [g20 (by omega), ha p k hp hk hb]
    exact hK G hG rfl ha
  | false =>
    rw [if_pos (show b1 false = 0 from rfl)]
    -- what is kept once it is asked
    have fin : ∀ (b : Bool) (H : am_I), frJ G H → b = S0 I fx p k → K (f_20 ((am_u (am_u H 27 p (f_21 (H 27 p) (nI k) 1)) 28 p (f_21 (H 28 p) (nI k) (nI (n1 b)))) 28 p) (nI k)) (am_u (am_u H 27 p (f_21 (H 27 p) (nI k) 1)) 28 p (f_21 (H 28 p) (nI k) (nI (n1 b)))) := by
      intro b H hH hb'
      rw [uu_e, g20 (by omega), g21 (by omega) (n1_lt b) (by omega), if_pos rfl]
      have e1 : decide (n1 b = 1) = S0 I fx p k := by
        rw [← hb']
        cases b <;> rfl
      rw [e1]
      refine hK _ ⟨fun c c1 c2 c3 c4 c5 c6 => ?_, fun i i1 i2 => ?_⟩ ?_ (fun p' k' hp' hk' hb2 => ?_)
      · rw [uu_h c6, uu_h c5, hH c c2 c3 c4]
        exact hG.1 c c1 c2 c3 c4 c5 c6
      · rw [uu_c (by decide), uu_c (by decide), hH 23 (by decide) (by decide) (by decide)]
        exact hG.2 i i1 i2
      · rw [uu_h (by decide), uu_h (by decide)]
        exact hH 23 (by decide) (by decide) (by decide)
      · by_cases ep : p' = p
        · rw [ep] at hb2 ⊢
          rw [uu_c (by decide), uu_e] at hb2
          rw [uu_e, g21 (by omega) (n1_lt b) (by omega)]
          rw [show f_21 (H 27 p) (nI k) 1 = f_21 (H 27 p) (nI k) (nI 1) from rfl, g21 (by omega) (by decide) (by omega)] at hb2
          by_cases ek : k' = k
          · rw [if_pos ek, e1, ek]
          · rw [if_neg ek] at hb2 ⊢
            rw [hH 27 (by decide) (by decide) (by decide)] at hb2
            rw [hH 28 (by decide) (by decide) (by decide)]
            exact ha p k' hp hk' hb2
        · rw [uu_c (by decide), uu_n ep, hH 27 (by decide) (by decide) (by decide)] at hb2
          rw [uu_n ep, uu_c (by decide), hH 28 (by decide) (by decide) (by decide)]
          exact ha p' k' hp' hk' hb2
    have fr : ∀ (b : Bool) (H : am_I), frJ G H → b = S0 I fx p k → (¬ (nI p < 0 ∨ 8 ≤ p) ∧ ¬ (nI p < 0 ∨ 8 ≤ p) ∧ ¬ (nI p < 0 ∨ 8 ≤ p) ∧ if b1 b = 0 then ¬ (nI p < 0 ∨ 8 ≤ p) ∧ ¬ (nI p < 0 ∨ 8 ≤ p) ∧ K (f_20 ((am_u (am_u H 27 p (f_21 (H 27 p) (nI k) 1)) 28 p (f_21 (H 28 p) (nI k) 0)) 28 p) (nI k)) (am_u (am_u H 27 p (f_21 (H 27 p) (nI k) 1)) 28 p (f_21 (H 28 p) (nI k) 0)) else ¬ (nI p < 0 ∨ 8 ≤ p) ∧ ¬ (nI p < 0 ∨ 8 ≤ p) ∧ K (f_20 ((am_u (am_u H 27 p (f_21 (H 27 p) (nI k) 1)) 28 p (f_21 (H 28 p) (nI k) 1)) 28 p) (nI k)) (am_u (am_u H 27 p (f_21 (H 27 p) (nI k) 1)) 28 p (f_21 (H 28 p) (nI k) 1))) := by
      intro b H hH hb'
      have f := fin b H hH hb'
      refine ⟨g8, g8, g8, ?_⟩
      cases b with
      | false => exact am_ifp rfl ⟨g8, g8, f⟩
      | true => exact am_ifn (by decide) ⟨g8, g8, f⟩
    refine hc G hG.1 _ (fun o ho => ?_)
    rcases ho with ⟨o1, o2⟩ | ⟨t, X, o1, o2, o3, o4⟩
    · refine ⟨fun _ => ?_, fun t ht => by rw [o1] at ht; cases ht⟩
      rw [o2] at es
      refine c116n hP (smI_n (by omega)) (fun H hH => ?_)
      exact fr _ H hH (by rw [es, o2])
    · refine ⟨(fun hn => by rw [o1] at hn; cases hn), fun t' ht => ?_⟩
      rw [o1] at ht
      rw [← Option.some.inj ht]
      rw [o2] at es
      refine c116s hP o3 o4 (smI_n (by omega)) (fun H hH => ?_)
      exact fr _ H hH (by rw [es, o2])
theorem l145c {T : Nat → Nat × Nat} {r : Nat → Nat → Option Nat} {I : am_I} {fx : Option LWX} {m w : Nat} {v3 : Int32} {E : Int32 → Int32 → am_I → Prop} (hm : m ≤ 8) (em : I 1 10 = nI m) (hP : ∀ p, p < m → PWd I m p) (hc : ∀ G, (∀ c, c ≠ 23 → c ≠ 24 → c ≠ 25 → c ≠ 26 → c ≠ 27 → c ≠ 28 → G c = I c) → ∀ K : Option Nat → Prop, (∀ o, LOc T r G o fx → K o) → w_108 (G 1 16) T r G K) (hw : w < 2 ^ m) (hE : ∀ G u, frQ I G → ask7 (S0 I fx) m G → G 23 1 = nI (rdO (S0 I fx) w m) → E (b1 (rdC (S0 I fx) w m)) u G) : ∀ q j G, j + q = m → frQ I G → ask7 (S0 I fx) m G → G 23 1 = nI (rdO (S0 I fx) w j) → lw_145_45 (q + 1) (b1 (rdC (S0 I fx) w j)) v3 (nI j) T r G E
  | 0, j, G, hj, hG, ha, e23 => by
    have e : j = m := by omega
    subst e
    unfold lw_145_45
    rw [hG.1 1 (by decide) (by decide) (by decide) (by decide) (by decide) (by decide), em, if_pos (nI_le (Nat.le_refl _) (by omega))]
    exact hE G _ hG ha e23
  | q + 1, j, G, hj, hG, ha, e23 => by
    have p2 : 2 ^ m ≤ 256 := Nat.pow_le_pow_right (n := 2) (j := 8) (by decide) hm
    have wl := rdO_lt (S := S0 I fx) hm hw j (by omega)
    obtain ⟨s1, s2⟩ := psk (w := rdO (S0 I fx) w j) (d := j) (by omega) (by omega)
    have sl : sb (rdO (S0 I fx) w j) j 0 < 2 ^ m := sb_lt wl (by omega) (by omega) (by decide)
    have eO : rdO (S0 I fx) w (j + 1) = sb (rdO (S0 I fx) w j) j (n1 (S0 I fx j (pc (sb (rdO (S0 I fx) w j) j 0)))) := rfl
    have eC : rdC (S0 I fx) w (j + 1) = (rdC (S0 I fx) w j || !decide (n1 (S0 I fx j (pc (sb (rdO (S0 I fx) w j) j 0))) = bi (rdO (S0 I fx) w j) j)) := rfl
    have ih := fun G' => l145c (T := T) (r := r) (v3 := v3) hm em hP hc hw hE q (j + 1) G' (by omega)
    unfold lw_145_45
    rw [hG.1 1 (by decide) (by decide) (by decide) (by decide) (by decide) (by decide), em, if_neg (nI_ge (by omega) (by omega)), e23, show f_21 (nI (rdO (S0 I fx) w j)) (nI j) 0 = nI (sb (rdO (S0 I fx) w j) j 0) from q21 (b := 0) (by omega) (by decide), q111 (by omega), ← nI_succ]
    refine c146 (hP j (by omega)) hc s2 hG ha (fun H hH h23 haH => ?_)
    have H23 : H 23 1 = nI (rdO (S0 I fx) w j) := by rw [h23]; exact e23
    rw [H23, n1_b1, q20 (by omega) (by omega), q21 (by omega) (n1_lt _), ← eO]
    have nl := n1_lt (S0 I fx j (pc (sb (rdO (S0 I fx) w j) j 0)))
    have bl := bi_lt (rdO (S0 I fx) w j) j
    have ih2 := ih (am_u H 23 1 (nI (rdO (S0 I fx) w (j + 1)))) ⟨fun c c1 c2 c3 c4 c5 c6 => by rw [uu_h c1]; exact hH.1 c c1 c2 c3 c4 c5 c6, fun k k1 k2 => by rw [uu_n k1]; exact hH.2 k k1 k2⟩ (fun p k hp hk hb => by
      rw [uu_c (by decide)] at hb ⊢
      exact haH p k hp hk hb) uu_e
    rw [eC] at ih2
    by_cases c : n1 (S0 I fx j (pc (sb (rdO (S0 I fx) w j) j 0))) = bi (rdO (S0 I fx) w j) j
    · refine am_ifp (by rw [c]) ?_
      rw [decide_eq_true c, Bool.not_true, Bool.or_false] at ih2
      have z : b1 (rdC (S0 I fx) w j) ||| 0 = b1 (rdC (S0 I fx) w j) := by
        cases rdC (S0 I fx) w j <;> rfl
      rw [z]
      exact ih2
    · refine am_ifn (fun q => c ((nb_inj (by omega) (by omega)).mp q)) ?_
      rw [decide_eq_false c, Bool.not_false, Bool.or_true] at ih2
      have z : b1 (rdC (S0 I fx) w j) ||| 1 = b1 true := by
        cases rdC (S0 I fx) w j <;> rfl
      rw [z]
      exact ih2
/-- rounds done: n, while those ahead changed something -/
def rgo (S : Nat → Nat → Bool) (m n : Nat) : Prop := ∀ i, i < n → rrC S m i = true
theorem l145b {T : Nat → Nat × Nat} {r : Nat → Nat → Option Nat} {I : am_I} {fx : Option LWX} {m : Nat} {E : Int32 → Int32 → am_I → Prop} (hm : m ≤ 8) (em : I 1 10 = nI m) (hP : ∀ p, p < m → PWd I m p) (hc : ∀ G, (∀ c, c ≠ 23 → c ≠ 24 → c ≠ 25 → c ≠ 26 → c ≠ 27 → c ≠ 28 → G c = I c) → ∀ K : Option Nat → Prop, (∀ o, LOc T r G o fx → K o) → w_108 (G 1 16) T r G K) (hE : ∀ n G u, n ≤ 50 → rgo (S0 I fx) m n → (n = 50 ∨ rrC (S0 I fx) m n = false) → frQ I G → G 23 1 = nI (rrO (S0 I fx) m n) → (1 ≤ n → G 23 2 = nI n) → E (b1 (rrC (S0 I fx) m n)) u G) : ∀ q n G, n + q = 50 → rgo (S0 I fx) m n → frQ I G → ask7 (S0 I fx) m G → G 23 1 = nI (rrO (S0 I fx) m n) → (1 ≤ n → G 23 2 = nI n) → lw_145_30 (q + 1) (b1 (rrC (S0 I fx) m n)) (nI (n + 1)) T r G E
  | 0, n, G, hn, hg, hG, ha, e1, e2 => by
    have e : n = 50 := by omega
    subst e
    unfold lw_145_30
    rw [if_pos (by decide)]
    exact hE 50 G _ (Nat.le_refl _) hg (Or.inl rfl) hG e1 e2
  | q + 1, n, G, hn, hg, hG, ha, e1, e2 => by
    unfold lw_145_30
    rw [if_neg (show ¬ (50 : Int32) < nI (n + 1) from nI_nlt (a := 50) (by omega) (by decide))]
    cases hb : rrC (S0 I fx) m n with
    | false =>
      rw [if_pos (show b1 false = 0 from rfl)]
      have h := hE n G (nI (n + 1)) (by omega) hg (Or.inr hb) hG e1 e2
      rw [hb] at h
      exact h
    | true =>
      rw [if_neg (by decide)]
      refine ⟨m + 1, l145c (T := T) (r := r) (I := I) (fx := fx) (w := rrO (S0 I fx) m n) (v3 := nI (n + 1)) hm em hP hc (rrO_lt hm n) (fun H u hH haH h23 => ?_) m 0 G (by omega) hG ha e1⟩
      rw [← nI_succ (n + 1)]
      refine l145b hm em hP hc hE q (n + 1) _ (by omega) (fun i hi => ?_) ⟨fun c c1 c2 c3 c4 c5 c6 => by rw [uu_h c1]; exact hH.1 c c1 c2 c3 c4 c5 c6, fun k k1 k2 => by rw [uu_n k2]; exact hH.2 k k1 k2⟩ (fun p k hp hk hb => by
        rw [uu_c (by decide)] at hb ⊢
        exact haH p k hp hk hb) (by rw [uu_n (by decide)]; exact h23) (fun _ => uu_e)
      by_cases ei : i = n
      · rw [ei]
        exact hb
      · exact hg i (by omega)
