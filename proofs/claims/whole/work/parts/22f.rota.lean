/-! rota: the class plans -/
def Tb (J : am_I) (q : Nat) : Prop := (∀ x, x < 1320 → J (q + 2) x = nI (jt x)) ∧ ∀ y, y < 495 → J (q + 3) y = nI (st y) ∧ J (q + 4) y = nI (ht y) ∧ J (q + 5) y = nI (sht y)
def EA (P : PRI) (m M : Nat) (J : am_I) (q x : Nat) : Prop := ∀ y, x ≤ y → y < 495 → ht y < m → ∀ h : List Nat, HS y h → (∀ p ∈ h, p < 8) → EN P m M J q y (5 - st y) h
def Cx (P : PRI) (m M : Nat) (J : am_I) (q : Nat) : Prop := J 1 10 = nI m ∧ J 12 1 = nI M ∧ PT J q P m ∧ Tb J q
def frO (q : Nat) (I J : am_I) : Prop := (∀ c, c ≠ q → c ≠ q + 1 → c ≠ q + 6 → c ≠ q + 7 → J c = I c) ∧ ∀ k, k ≠ 0 → k ≠ 1 → k ≠ 10 → J q k = I q k
theorem frO_0 (q : Nat) (I : am_I) : frO q I I := ⟨fun _ _ _ _ _ => rfl, fun _ _ _ _ => rfl⟩
theorem frO_t {q : Nat} {I J H : am_I} (h : frO q I J) (g : frO q J H) : frO q I H := ⟨fun c a b d e => (g.1 c a b d e).trans (h.1 c a b d e), fun k a b c => (g.2 k a b c).trans (h.2 k a b c)⟩
theorem frO_W {q : Nat} {I J : am_I} (h : frW q I J) : frO q I J := ⟨fun c a _ _ _ => h.1 c a, h.2⟩
theorem Cx_O {P : PRI} {m M q : Nat} {I J : am_I} (q99 : 99 ≤ q) (h : Cx P m M I q) (f : frO q I J) : Cx P m M J q := by
  obtain ⟨a, b, c, d, e⟩ := h
  refine ⟨?_, ?_, fun p w z a1 a2 a3 => ?_, fun x hx => ?_, fun y hy => ?_⟩
  · rw [f.1 1 (by omega) (by omega) (by omega) (by omega)]; exact a
  · rw [f.1 12 (by omega) (by omega) (by omega) (by omega)]; exact b
  · rw [f.1 (q + 8) (by omega) (by omega) (by omega) (by omega)]; exact c p w z a1 a2 a3
  · rw [f.1 (q + 2) (by omega) (by omega) (by omega) (by omega)]; exact d x hx
  · rw [f.1 (q + 3) (by omega) (by omega) (by omega) (by omega), f.1 (q + 4) (by omega) (by omega) (by omega) (by omega), f.1 (q + 5) (by omega) (by omega) (by omega) (by omega)]; exact e y hy
theorem EA_cg {P : PRI} {m M q x : Nat} {I J : am_I} (h : EA P m M I q x) (e6 : J (q + 6) = I (q + 6)) (e7 : J (q + 7) = I (q + 7)) : EA P m M J q x := by
  intro y y1 y2 y3 l hl hp z hz
  rw [e6, e7]
  exact h y y1 y2 y3 l hl hp z hz
theorem q141 {T : Nat → Nat × Nat} {r : Nat → Nat → Option Nat} {q x l : Nat} {J : am_I} {K : Int32 → Prop} (ob : OB T r q) (tb : Tb J q) (hx : x < 495) (hl : l < 8) (hK : x < 165 → K (nI (jt (x * 8 + l)))) (hK' : 165 ≤ x → K (-1)) : w_141 q (nI x) (nI l) T r J K := by
  unfold w_141
  rw [if_neg (nI_pos (by omega))]
  obtain ⟨k9, -, o3, -, -, -, -, -, -, -, t2, -, -, -, -, -, -⟩ := ob
  by_cases z : x < 165
  · rw [if_neg (show ¬ (165 : Int32) ≤ nI x from nI_ge (b := 165) (by omega) (by decide))]
    have es : nI x * 8 + nI l = nI (x * 8 + l) := by rw [show (8 : Int32) = nI 8 from rfl, nb_mul, nb_add]
    refine ⟨k9, _, o3, ?_⟩
    rw [t2]
    refine ⟨rfl, nb_gdx es (by omega) (by decide), ?_⟩
    rw [nb_cl es (by omega), tb.1 _ (by omega)]
    exact hK z
  · rw [if_pos (show (165 : Int32) ≤ nI x from nI_le (a := 165) (by omega) (by omega))]
    exact hK' (by omega)
/-- from a hand and its row, the next one's -/
theorem hx_next {P : PRI} {m M q x l n : Nat} {J : am_I} {h : List Nat} (tb : Tb J q) (ea : EA P m M J q (x + 1)) (hs : HS x h) (hp : ∀ p ∈ h, p < 8) (hx : x < 165) (hm : m ≤ 8) (ht' : ht x < m) (hl : l < m) (hn : (l :: h).length + n = 5) : ∃ x', x' < 495 ∧ nI (jt (x * 8 + l)) = nI x' ∧ J (q + 3) x' = nI (l :: h).length ∧ EN P m M J q x' n (l :: h) := by
  obtain ⟨a, b, c, d, e⟩ := tb2 x hx l (by omega)
  have hs' := HS_j hs hx (show l < 8 by omega)
  refine ⟨_, b, rfl, ?_, ?_⟩
  · rw [(tb.2 _ b).1, hs'.1]
  · have k := ea _ (by omega) b (by rw [e]; omega) _ hs' (fun p hp' => by
      rcases List.mem_cons.mp hp' with rfl | h2
      · omega
      · exact hp p h2)
    rw [show n = 5 - st (jt (x * 8 + l)) by rw [hs'.1]; omega]
    exact k
def EL (P : PRI) (m M : Nat) (J : am_I) (q x : Nat) (h : List Nat) (l : Nat) : Prop := ∀ l', l' < l → J (q + 6) (x * 8 + l') = nI (wy P m M (5 - st x) (l' :: h)).1 ∧ J (q + 7) (x * 8 + l') = nI (wy P m M (5 - st x) (l' :: h)).2.1
theorem l140 {T : Nat → Nat × Nat} {r : Nat → Nat → Option Nat} {q x : Nat} {I : am_I} {P : PRI} {m M : Nat} {h : List Nat} {E : Int32 → am_I → Prop} (q99 : 99 ≤ q) (ob : OB T r q) (hm : m ≤ 8) (hM : M < 2 ^ 31) (hP : ∀ p w b c, P p w b = some c → c ≤ 1000) (hx : x < 495) (ht' : ht x < m) (hs : HS x h) (hp : ∀ p ∈ h, p < 8)
    (hE : ∀ u J, frO q I J → EA P m M J q (x + 1) → EL P m M J q x h m → E u J) (cx : Cx P m M I q) : ∀ k l J, l + k = m → frO q I J → EA P m M J q (x + 1) → EL P m M J q x h l → lw_140_2 (k + 1) q (nI x) (nI l) T r J E
  | 0, l, J, hb, f, ea, el => by
    have e : l = m := by omega
    subst e
    unfold lw_140_2
    rw [f.1 1 (by omega) (by omega) (by omega) (by omega), cx.1, if_pos (nI_le (Nat.le_refl _) (by omega))]
    exact hE _ J f ea el
  | k + 1, l, J, hb, f, ea, el => by
    have ih := fun G => l140 (T := T) (r := r) q99 ob hm hM hP hx ht' hs hp hE cx k (l + 1) G (by omega)
    rw [nI_succ] at ih
    have cj := Cx_O q99 cx f
    have ob' := ob
    obtain ⟨k9, -, -, -, -, o6, o7, o8, -, -, -, -, -, t5, t6, t7, -⟩ := ob'
    have st4 : st x ≤ 4 := by
      rcases Nat.lt_or_ge x 165 with z | z
      · have := (tb3 x hx).2.1 z; omega
      · have := (tb3 x hx).2.2 z; omega
    have hl4 : h.length ≤ 4 := hs.1 ▸ st4
    unfold lw_140_2
    rw [cj.1, if_neg (nI_ge (by omega) (by omega))]
    refine ⟨k9, _, o6, ?_⟩
    rw [t5]
    refine ⟨rfl, nb_gd (by omega) (by decide), k9, ?_⟩
    rw [nI_clamp (by omega : x < 2 ^ 31), (cj.2.2.2.2 x hx).2.2, f137 l (by omega), nb_add]
    have eh : sht x + 8 ^ l = shr (l :: h) := by rw [hs.2]; rfl
    rw [eh]
    have hp2 : ∀ p ∈ l :: h, p < 8 := fun p hp' => by
      rcases List.mem_cons.mp hp' with rfl | h2
      · omega
      · exact hp p h2
    have len : (l :: h).length + (4 - st x) = 5 := by rw [List.length_cons, ← hs.1]; omega
    have e5 : 4 - st x + 1 = 5 - st x := by omega
    have go : ∀ q2 : Int32, ((q2 = -1 ∧ 4 - st x = 0) ∨ ∃ x', x' < 495 ∧ q2 = nI x' ∧ J (q + 3) x' = nI (l :: h).length ∧ EN P m M J q x' (4 - st x) (l :: h)) → w_142 q (nI (shr (l :: h))) q2 (nI l) T r J (fun I3 =>
          (am_ts T q).1 = 9 ∧ ∃ c4, (am_rs r q 7) = some c4 ∧
          ((am_ts T q).1 = 9) ∧
          ((am_ts T c4).1 = 20) ∧
          ¬ (((nI x * 8) + nI l) < 0 ∨ (am_ts T c4).2 ≤ Int32.toNatClampNeg ((nI x * 8) + nI l)) ∧
          (am_ts T q).1 = 9 ∧ ∃ c5, (am_rs r q 8) = some c5 ∧
          ((am_ts T q).1 = 9) ∧
          ((am_ts T c5).1 = 20) ∧
          ¬ (((nI x * 8) + nI l) < 0 ∨ (am_ts T c5).2 ≤ Int32.toNatClampNeg ((nI x * 8) + nI l)) ∧
          lw_140_2 (k + 1) q (nI x) (nI l + 1) T r (am_u (am_u I3 c4 (Int32.toNatClampNeg ((nI x * 8) + nI l)) (I3 q 0)) c5 (Int32.toNatClampNeg ((nI x * 8) + nI l)) ((am_u I3 c4 (Int32.toNatClampNeg ((nI x * 8) + nI l)) (I3 q 0)) q 1)) E) := by
      intro q2 h2
      refine q142 (n := 4 - st x) q99 ob hm cj.1 cj.2.1 hM hP cj.2.2.1 hp2 len (fun p hp' => ⟨fun e => ?_, fun e => ?_⟩) h2 (fun G hG => ?_)
      · rw [(nb_inj (by omega) (by omega)).mp e]; rfl
      · have e : some l = some p := e
        rw [Option.some.inj e]
      · clear h2
        obtain ⟨g, g0, g1, g10⟩ := hG
        have es : nI x * 8 + nI l = nI (x * 8 + l) := by rw [show (8 : Int32) = nI 8 from rfl, nb_mul, nb_add]
        refine ⟨k9, _, o7, k9, by rw [t6], by rw [t6]; exact nb_gdx es (by omega) (by decide), k9, _, o8, k9, by rw [t7], by rw [t7]; exact nb_gdx es (by omega) (by decide), ?_⟩
        rw [nb_cl es (by omega), uu_c (show q ≠ q + 6 by omega), g0, g1, e5]
        refine ih _ (frO_t f ?_) ?_ ?_
        · refine ⟨fun c a1 a2 a3 a4 => ?_, fun z a1 a2 a3 => ?_⟩
          · rw [uu_h a4, uu_h a3]; exact g.1 c a1
          · rw [uu_c (by omega), uu_c (by omega)]; exact g.2 z a1 a2 a3
        · intro y y1 y2 y3 h3 s3 p3 z hz
          have k := ea y y1 y2 y3 h3 s3 p3 z hz
          rw [uu_c (show q + 6 ≠ q + 7 by omega), uu_n (show y * 8 + z ≠ x * 8 + l by omega), uu_n (show y * 8 + z ≠ x * 8 + l by omega), uu_c (show q + 7 ≠ q + 6 by omega), g.1 (q + 6) (by omega), g.1 (q + 7) (by omega)]
          exact k
        · intro l' hl'
          by_cases z : l' = l
          · subst z
            rw [uu_c (show q + 6 ≠ q + 7 by omega), uu_e, uu_e]
            exact ⟨rfl, rfl⟩
          · have k := el l' (by omega)
            rw [uu_c (show q + 6 ≠ q + 7 by omega), uu_n (show x * 8 + l' ≠ x * 8 + l by omega), uu_n (show x * 8 + l' ≠ x * 8 + l by omega), uu_c (show q + 7 ≠ q + 6 by omega), g.1 (q + 6) (by omega), g.1 (q + 7) (by omega)]
            exact k
    refine q141 ob cj.2.2.2 hx (by omega) (fun z => ⟨k9, go _ (Or.inr ?_)⟩) (fun z => ⟨k9, go _ (Or.inl ⟨rfl, ?_⟩)⟩)
    · exact hx_next cj.2.2.2 ea hs hp z hm ht' (by omega) len
    · have := (tb3 x hx).2.2 z
      omega
theorem q140 {T : Nat → Nat × Nat} {r : Nat → Nat → Option Nat} {q x : Nat} {I : am_I} {P : PRI} {m M : Nat} {K : am_I → Prop} (q99 : 99 ≤ q) (ob : OB T r q) (hm : m ≤ 8) (hM : M < 2 ^ 31) (hP : ∀ p w b c, P p w b = some c → c ≤ 1000) (hx : x < 495) (ht' : ht x < m) (cx : Cx P m M I q) (ea : EA P m M I q (x + 1)) (hK : ∀ J, frO q I J → EA P m M J q x → K J) : w_140 q (nI x) T r I K := by
  obtain ⟨h, hs, hp'⟩ := HS_rep x x (Nat.le_refl _) hx
  have hp : ∀ p ∈ h, p < 8 := fun p hh => by have := hp' p hh; have := ht8 x; omega
  have st4 : st x ≤ 4 := by
    rcases Nat.lt_or_ge x 165 with z | z
    · have := (tb3 x hx).2.1 z; omega
    · have := (tb3 x hx).2.2 z; omega
  unfold w_140
  refine ⟨m + 1, l140 (E := fun _ J => K J) q99 ob hm hM hP hx ht' hs hp (fun _ J f e1 el => hK J f ?_) cx m 0 I (by omega) (frO_0 q I) ea (fun l' hl' => absurd hl' (by omega))⟩
  intro y y1 y2 y3 h3 s3 p3
  by_cases z : y = x
  · subst z
    obtain ⟨c1, c2⟩ := HS_eq s3 hs p3 hp st4
    intro l hl
    rw [wy_cg (5 - st y) (l :: h3) (l :: h) (fun p => by rw [List.count_cons, List.count_cons, c1 p]) (by rw [List.length_cons, List.length_cons, c2]) rfl]
    exact el l hl
  · exact e1 y (by omega) y2 y3 h3 s3 p3
theorem m1_lt : ∀ w : Int32, w = nI 0 + (-1) → w < 0 := fun w h => by rw [h]; decide
theorem m1_s (k : Nat) : nI (k + 1) + (-1) = nI k := by
  rw [nI_succ, Int32.add_assoc, show (1 : Int32) + (-1) = 0 from rfl, Int32.add_zero]
theorem l138 {T : Nat → Nat × Nat} {r : Nat → Nat → Option Nat} {q : Nat} {I : am_I} {P : PRI} {m M : Nat} {E : Int32 → am_I → Prop} (q99 : 99 ≤ q) (ob : OB T r q) (hm : m ≤ 8) (hM : M < 2 ^ 31) (hP : ∀ p w b c, P p w b = some c → c ≤ 1000) (cx : Cx P m M I q) (hE : ∀ u J, frO q I J → EA P m M J q 0 → E u J) : ∀ k w J, k ≤ 495 → w = nI k + (-1) → frO q I J → EA P m M J q k → lw_138_10 (k + 1) q w T r J E
  | 0, w, J, _, hw, f, ea => by
    unfold lw_138_10
    rw [if_pos (m1_lt w hw)]
    exact hE _ J f ea
  | k + 1, w, J, hk, hw, f, ea => by
    have ih := fun w' G => l138 (T := T) (r := r) q99 ob hm hM hP cx hE k w' G (by omega)
    have cj := Cx_O q99 cx f
    rw [m1_s] at hw
    subst hw
    have ob' := ob
    obtain ⟨k9, -, -, -, o5, -, -, -, -, -, -, -, t4, -, -, -, -⟩ := ob'
    have hc : ht k < 8 := ht8 k
    unfold lw_138_10
    generalize hq : nI k + (-1) = w'
    rw [if_neg (nI_pos (by omega))]
    refine ⟨k9, _, o5, ?_⟩
    rw [t4]
    refine ⟨rfl, nb_gd (by omega) (by decide), ?_⟩
    rw [nI_clamp (by omega : k < 2 ^ 31), (cj.2.2.2.2 k (by omega)).2.1, cj.1]
    by_cases z : ht k < m
    · refine am_ifn (fun v => ?_) ⟨k9, ?_⟩
      · have := (nb_le (by omega) (by omega)).mp v
        omega
      · exact q140 q99 ob hm hM hP (by omega) z cj ea (fun G g e => ih w' G hq.symm (frO_t f g) e)
    · refine am_ifp ((nb_le (by omega) (by omega)).mpr (by omega)) (ih w' J hq.symm f ?_)
      intro y y1 y2 y3
      by_cases v : y = k
      · subst v; exact absurd y3 z
      · exact ea y (by omega) y2 y3
