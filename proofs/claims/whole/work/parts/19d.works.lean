/-! works, by the class -/
def MKc (T : Nat → Nat × Nat) (r : Nat → Nat → Option Nat) (I : am_I) (t c i v : Nat) : Prop := (am_ts T t).1 = 11 ∧ ∃ c5, am_rs r t 5 = some c5 ∧ (am_ts T c5).1 = 20 ∧ c * 5 + i < (am_ts T c5).2 ∧ (am_ts T c5).2 ≤ 60 ∧ I c5 (c * 5 + i) = nI v
theorem q88 {T : Nat → Nat × Nat} {r : Nat → Nat → Option Nat} {I : am_I} {t c i v : Nat} {K : Int32 → Prop} (h : MKc T r I t c i v) (hK : K (nI v)) : w_88 t (nI c) (nI i) T r I K := by
  obtain ⟨h1, c5, h2, h3, h4, h5, h6⟩ := h
  unfold w_88
  have x0 : nI c * 5 + nI i = nI (c * 5 + i) := by
    rw [show nI c * 5 = nI (c * 5) from nb_mul c 5, nb_add]
  rw [if_neg (nI_pos (by omega)), if_neg (nI_pos (by omega)), x0]
  refine ⟨h1, c5, h2, ⟨by omega, by omega⟩, ?_⟩
  refine am_ifn (show ¬ nI (am_ts T c5).2 ≤ nI (c * 5 + i) from nI_ge h4 (by omega)) ?_
  refine ⟨h1, c5, h2, h3, nb_gd h4 (by omega), ?_⟩
  rw [nI_clamp (by omega), h6]
  exact hK
def top1 (s : List Int) : Int32 := match s with
  | [] => 1
  | v :: _ => Int32.ofInt v
theorem q87 {T : Nat → Nat × Nat} {r : Nat → Nat → Option Nat} {I : am_I} {C : Nat → Nat × Nat} {e : Nat → Nat → Int} {m t c0 n cl i a b : Nat} {R : Option (List Int)} {K : Int32 → am_I → Prop} (hm : m ≤ 8) (em : I 1 10 = nI m) (hX : TXc T r I t c0 n C) (en : I t 1 = nI n) (ma : MKc T r I t cl i a) (mb : MKc T r I t cl (i + 1) b) (hab : a ≤ b) (hb : b ≤ n) (hW : ∀ k, k < b → CWd I C e m k) (hR : run C 32 e b a [] = some R)
    (k0 : R = none → ∀ J, (∀ c, c ≠ 24 → c ≠ 26 → J c = I c) → K 0 J) (k1 : ∀ s, R = some s → ∀ J, (∀ c, c ≠ 24 → c ≠ 26 → J c = I c) → J 24 1 = top1 s → K 1 J) : w_87 t (nI cl) (nI i) T r I K := by
  have x1 := hX.1
  have n4 : n ≤ 400 := hX.2.2.2.2.1
  unfold w_87
  refine ⟨x1, q88 ma ⟨x1, ?_⟩⟩
  rw [← nI_succ]
  refine q88 mb ⟨x1, ?_⟩
  have eb : (if I t 1 < nI b then I t 1 else nI b) = nI b := by
    rw [en, if_neg (nI_nlt hb (by omega))]
  rw [eb]
  obtain ⟨y1, y2, y3, y4, y5, y6, y7, y8⟩ := hX
  refine ⟨b - a + 1, l87 (I := am_u (am_u I 24 3 0) 24 1 1) (C := C) (e := e) (m := m) (c0 := c0) (n := n) (R := R) hm (by rw [uu_c (by decide), uu_c (by decide)]; exact em) ⟨y1, y2, y3, y4, y5, y6, y7, fun k hk => by rw [uu_c y6, uu_c y6]; exact y8 k hk⟩ hb (fun k hk => CWd_cg (hW k hk) (by rw [uu_h (by decide), uu_h (by decide)]) (by rw [uu_h (by decide), uu_h (by decide)]) (by rw [uu_h (by decide), uu_h (by decide)])) (fun J u v hJ => ⟨fun hn => ?_, fun s hs l1 l2 l3 => ?_⟩) (b - a) a 0 [] _ (by omega) (by omega) (by omega) ⟨fun c _ _ => rfl, fun k _ => rfl⟩ (by rw [List.length_nil]; omega) (by rw [uu_n (by decide), uu_e]; rfl) trivial hR⟩
  · refine am_ifp rfl ⟨Or.inl rfl, k0 hn J (fun c c1 c2 => ?_)⟩
    rw [hJ.1 c c1 c2, uu_h c1, uu_h c1]
  · refine am_ifn (by decide) ?_
    rw [l2]
    cases s with
    | nil =>
      refine am_ifp (by decide) ⟨Or.inr rfl, k1 _ hs J (fun c c1 c2 => ?_) ?_⟩
      · rw [hJ.1 c c1 c2, uu_h c1, uu_h c1]
      · rw [hJ.2 1 (by decide), uu_e]
        rfl
    | cons x s1 =>
      have ll : s1.length < 32 := by
        rw [List.length_cons] at l1
        omega
      have z1 : nI (x :: s1).length - 1 = nI s1.length := by
        rw [List.length_cons]
        exact nb_sub (b := 1) (by omega)
      refine am_ifn (show ¬ nI (x :: s1).length ≤ 0 from nI_ge (a := 0) (by rw [List.length_cons]; omega) (by omega)) ?_
      rw [z1]
      refine ⟨nb_gd ll (by decide), Or.inr rfl, k1 _ hs _ (fun c c1 c2 => ?_) ?_⟩
      · rw [uu_h c1, hJ.1 c c1 c2, uu_h c1, uu_h c1]
      · rw [uu_e, nI_clamp (by omega)]
        exact l3.1
/-! the reference's machine -/
def rpo (ord : Bool) (o w : Nat) : Nat := if o = 0 then 0 else if o = 1 then (if ord = true then (if w = 7 then 1 else w - 8) else w + 1) else if o = 2 then 6 else if o = 3 then 7 else if o < 12 then o + 16 else if o = 12 then 28 else if o = 13 then 30 else 29
def rpa (o w : Nat) : Nat := if o = 0 then w else if o = 2 then w else if o = 3 then 16 * (w / 12) + w % 12 else if 13 ≤ o then w else 0
def LSk (B : Int) (m : Nat → Int64) : List Int → Prop
  | [] => True
  | x :: t => (m t.length).toInt = x ∧ -B ≤ x ∧ x ≤ B ∧ LSk B m t
theorem LSk_cg {B B' : Int} {m m' : Nat → Int64} (hB : B ≤ B') : ∀ {t : List Int}, LSk B m t → (∀ i, i < t.length → m' i = m i) → LSk B' m' t
  | [], _, _ => trivial
  | x :: t, h, e => by
    obtain ⟨h1, h2, h3, h4⟩ := h
    refine ⟨(congrArg Int64.toInt (e _ (by rw [List.length_cons]; omega))).trans h1, by omega, by omega, LSk_cg hB h4 (fun i hi => e i (by rw [List.length_cons]; omega))⟩
/-- what the reference reads of the code and of the words -/
def RWd (I : am_I) (L : am_J) (ord : Bool) (bs : Nat) (C : Nat → Nat × Nat) (e : Nat → Nat → Int) (m k : Nat) : Prop := (C k).1 < 15 ∧ (C k).2 ≤ 100000 ∧ (ord = false → I 68 (bs + 98 + 2 * k) = nI (rpo ord (C k).1 (C k).2) ∧ I 68 (bs + 98 + 2 * k + 1) = nI (rpa (C k).1 (C k).2) ∧ (C k).1 ≠ 2 ∧ (C k).1 ≠ 3) ∧ (ord = true → I 77 k = nI (rpo ord (C k).1 (C k).2) ∧ I 78 k = nI (rpa (C k).1 (C k).2)) ∧ ((C k).1 = 1 → -1000000000 ≤ e 1 (C k).2 ∧ e 1 (C k).2 ≤ 1000000000 ∧ (ord = false → (C k).2 < 10 ∧ (L 84 ((C k).2 + 1)).toInt = e 1 (C k).2) ∧ (ord = true → ((C k).2 = 7 ∨ (10 ≤ (C k).2 ∧ (C k).2 < 14)) ∧ (L 85 (rpo ord 1 (C k).2)).toInt = e 1 (C k).2)) ∧ ((C k).1 = 2 → (C k).2 < 8 ∧ e 2 (C k).2 = (if m ≤ (C k).2 then -1 else (I 68 (10 + (C k).2)).toInt) ∧ ((C k).2 < m → ∃ x, x < 10 ∧ I 68 (10 + (C k).2) = nI x)) ∧ ((C k).1 = 3 → (C k).2 < 96 ∧ e 3 (C k).2 = (if m ≤ (C k).2 / 12 then -1 else (bi (Int32.toNatClampNeg (I 68 (18 + (C k).2 / 12))) ((C k).2 % 12) : Int)) ∧ ((C k).2 / 12 < m → ∃ x, x < 4096 ∧ I 68 (18 + (C k).2 / 12) = nI x)) ∧ (13 ≤ (C k).1 → k + 1 ≤ (C k).2)
theorem l64 {x : Nat} (h : x < 2 ^ 31) : (Int32.toInt64 (nI x)).toInt = (x : Int) := by
  rw [Int32.toInt_toInt64, nI_toInt h]
/-- one step of the reference's machine that puts a number -/
theorem q239l {I : am_I} {L : am_J} {ord : Bool} {bs m k h : Nat} {C : Nat → Nat × Nat} {e : Nat → Nat → Int} {v2 : Int32} {B E : Int32 → Int32 → am_I → am_J → Prop} (hm : m ≤ 8) (em : I 68 1 = nI m) (eo : I 66 20 = b1 ord) (hC : RWd I L ord bs C e m k) (ho : (C k).1 < 4) (hh : h < 400) (hB : ∀ v : Int64, v.toInt = lv e (C k).1 (C k).2 → -1000000000 ≤ lv e (C k).1 (C k).2 → lv e (C k).1 (C k).2 ≤ 1000000000 → B (nI (h + 1)) (nI (k + 1)) I (am_u L 86 h v)) : wb_239_95 v2 (nI h) (nI k) (nI (rpo ord (C k).1 (C k).2)) (nI (rpa (C k).1 (C k).2)) I L B E := by
  obtain ⟨c1, c2, c3, c4, c5, c6, c7, c8⟩ := hC
  clear c8
  generalize (C k).1 = o at *
  generalize (C k).2 = w at *
  have gh : ¬ (nI h < 0 ∨ 400 ≤ Int32.toNatClampNeg (nI h)) := nb_gd hh (by decide)
  unfold wb_239_95
  rw [nI_clamp (by omega : h < 2 ^ 31)] at gh ⊢
  rw [← nI_succ, ← nI_succ]
  rcases (by omega : o = 0 ∨ o = 1 ∨ o = 2 ∨ o = 3) with rfl | rfl | rfl | rfl
  · rw [show rpo ord 0 w = 0 from rfl, show rpa 0 w = w from rfl, if_neg (by decide), if_pos (show nI 0 = 0 from rfl)]
    exact ⟨gh, hB _ (l64 (by omega)) (by show -1000000000 ≤ (w : Int); omega) (by show (w : Int) ≤ 1000000000; omega)⟩
  · obtain ⟨w1, w2, w3, w4⟩ := c5 rfl
    cases ord with
    | false =>
      obtain ⟨w5, w6⟩ := w3 rfl
      rw [show rpo false 1 w = w + 1 from rfl, if_neg (show ¬ (20 : Int32) ≤ nI (w + 1) from nI_ge (b := 20) (by omega) (by decide)), if_neg (nz0 (by omega) (by omega)), if_pos (show I 66 20 = 0 from eo)]
      refine ⟨nb_gd (by omega) (by decide), gh, ?_⟩
      rw [nI_clamp (by omega : w + 1 < 2 ^ 31)]
      exact hB _ w6 w1 w2
    | true =>
      obtain ⟨w5, w6⟩ := w4 rfl
      have rp : 1 ≤ rpo true 1 w ∧ rpo true 1 w ≤ 5 := by
        show 1 ≤ (if w = 7 then 1 else w - 8) ∧ (if w = 7 then 1 else w - 8) ≤ 5
        split <;> omega
      rw [if_neg (show ¬ (20 : Int32) ≤ nI (rpo true 1 w) from nI_ge (b := 20) (by omega) (by decide)), if_neg (nz0 (by omega) (by omega)), if_neg (by rw [eo]; decide), if_neg (show ¬ (6 : Int32) ≤ nI (rpo true 1 w) from nI_ge (b := 6) (by omega) (by decide))]
      refine ⟨nb_gd (by omega) (by decide), gh, ?_⟩
      rw [nI_clamp (by omega)]
      exact hB _ w6 w1 w2
  · obtain ⟨w1, w2, w3⟩ := c6 rfl
    have ot : ord = true := by
      cases ord
      · exact absurd rfl (c3 rfl).2.2.1
      · rfl
    subst ot
    have e2 : lv e 2 w = (if m ≤ w then -1 else (I 68 (10 + w)).toInt) := w2
    rw [show rpo true 2 w = 6 from rfl, show rpa 2 w = w from rfl, if_neg (by decide), if_neg (by decide), if_neg (by rw [eo]; decide), if_pos (by decide), if_pos (by decide)]
    have q := qlt (nI w) m (by omega)
    unfold f_192
    rw [em]
    rcases q with ⟨_, f, g⟩ | ⟨_, f, n', hn', en'⟩
    · have c : m ≤ w := by
        rcases Nat.lt_or_ge w m with l | l
        · exact absurd rfl (g w l)
        · exact l
      rw [if_pos c] at e2
      rw [if_pos f]
      refine ⟨gh, hB _ ?_ (by rw [e2]; decide) (by rw [e2]; decide)⟩
      rw [e2]
      rfl
    · have c : w < m := by
        have := (nb_inj (by omega) (by omega)).mp en'
        omega
      rw [if_neg (by omega)] at e2
      obtain ⟨x, hx, ex⟩ := w3 c
      rw [if_neg (by rw [f]; decide)]
      obtain ⟨g10, c10⟩ := ixa (a := 10) (n := w) (by omega)
      refine ⟨g10, gh, ?_⟩
      rw [show Int32.toNatClampNeg (10 + nI w) = 10 + w from c10, ex]
      rw [ex, nI_toInt (by omega)] at e2
      refine hB _ ?_ (by rw [e2]; omega) (by rw [e2]; omega)
      rw [e2]
      exact l64 (by omega)
  · obtain ⟨w1, w2, w3⟩ := c7 rfl
    have ot : ord = true := by
      cases ord
      · exact absurd rfl (c3 rfl).2.2.2
      · rfl
    subst ot
    have e2 : lv e 3 w = (if m ≤ w / 12 then -1 else (bi (Int32.toNatClampNeg (I 68 (18 + w / 12))) (w % 12) : Int)) := w2
    have d16 : nI (16 * (w / 12) + w % 12) / 16 = nI (w / 12) := by
      rw [show nI (16 * (w / 12) + w % 12) / 16 = nI ((16 * (w / 12) + w % 12) / 16) from pk_div (d := 16) (by omega) (by decide) (by decide), show (16 * (w / 12) + w % 12) / 16 = w / 12 by omega]
    have m16 : nI (16 * (w / 12) + w % 12) - nI (w / 12) * 16 = nI (w % 12) := by
      rw [← d16, show nI (16 * (w / 12) + w % 12) - nI (16 * (w / 12) + w % 12) / 16 * 16 = nI ((16 * (w / 12) + w % 12) % 16) from pk_rem (d := 16) (by omega) (by decide) (by decide), show (16 * (w / 12) + w % 12) % 16 = w % 12 by omega]
    rw [show rpo true 3 w = 7 from rfl, show rpa 3 w = 16 * (w / 12) + w % 12 from rfl, if_neg (by decide), if_neg (by decide), if_neg (by rw [eo]; decide), if_pos (by decide), if_neg (by decide), d16]
    have q := qlt (nI (w / 12)) m (by omega)
    unfold f_192
    rw [em]
    rcases q with ⟨_, f, g⟩ | ⟨_, f, n', hn', en'⟩
    · have c : m ≤ w / 12 := by
        rcases Nat.lt_or_ge (w / 12) m with l | l
        · exact absurd rfl (g _ l)
        · exact l
      rw [if_pos c] at e2
      rw [if_pos f]
      refine ⟨gh, hB _ ?_ (by rw [e2]; decide) (by rw [e2]; decide)⟩
      rw [e2]
      rfl
    · have c : w / 12 < m := by
        have := (nb_inj (by omega) (by omega)).mp en'
        omega
      rw [if_neg (by omega)] at e2
      obtain ⟨x, hx, ex⟩ := w3 c
      rw [if_neg (by rw [f]; decide)]
      obtain ⟨g10, c10⟩ := ixa (a := 18) (n := w / 12) (by omega)
      refine ⟨g10, gh, ?_⟩
      rw [show Int32.toNatClampNeg (18 + nI (w / 12)) = 18 + w / 12 from c10, ex, m16]
      have q := q20 (w := x) (d := w % 12) (by omega) (by omega)
      unfold f_20 at q
      rw [q]
      have bl := bi_lt x (w % 12)
      rw [ex, nI_clamp (by omega)] at e2
      refine hB _ ?_ (by rw [e2]; omega) (by rw [e2]; omega)
      rw [e2]
      exact l64 (by omega)
