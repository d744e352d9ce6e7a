/-! rota: the class weighs -/
def OB (T : Nat → Nat × Nat) (r : Nat → Nat → Option Nat) (q : Nat) : Prop := (am_ts T q).1 = 9 ∧ am_rs r q 2 = some (q + 1) ∧ am_rs r q 3 = some (q + 2) ∧ am_rs r q 4 = some (q + 3) ∧ am_rs r q 5 = some (q + 4) ∧ am_rs r q 6 = some (q + 5) ∧ am_rs r q 7 = some (q + 6) ∧ am_rs r q 8 = some (q + 7) ∧ am_rs r q 9 = some (q + 8) ∧
  am_ts T (q + 1) = (20, 6) ∧ am_ts T (q + 2) = (20, 1320) ∧ am_ts T (q + 3) = (20, 495) ∧ am_ts T (q + 4) = (20, 495) ∧ am_ts T (q + 5) = (20, 495) ∧ am_ts T (q + 6) = (20, 3960) ∧ am_ts T (q + 7) = (20, 3960) ∧ am_ts T (q + 8) = (20, 96)
def pI : Option Nat → Int32
  | none => -1
  | some c => nI c
def PT (I : am_I) (q : Nat) (P : PRI) (m : Nat) : Prop := ∀ p w b, p < m → w < 6 → b < 2 → I (q + 8) ((w * 2 + b) * 8 + p) = pI (P p w b)
def EN (P : PRI) (m M : Nat) (I : am_I) (q x n : Nat) (h : List Nat) : Prop := ∀ l, l < m → I (q + 6) (x * 8 + l) = nI (wy P m M n (l :: h)).1 ∧ I (q + 7) (x * 8 + l) = nI (wy P m M n (l :: h)).2.1
def frW (q : Nat) (I J : am_I) : Prop := (∀ c, c ≠ q → J c = I c) ∧ ∀ k, k ≠ 0 → k ≠ 1 → k ≠ 10 → J q k = I q k
theorem frW_t {q : Nat} {I J H : am_I} (h : frW q I J) (g : frW q J H) : frW q I H := ⟨fun c hc => (g.1 c hc).trans (h.1 c hc), fun k a b c => (g.2 k a b c).trans (h.2 k a b c)⟩
theorem fd_n {g : Nat → Option (Nat × Nat)} {j : Nat} (h : g j = none) : fd g (j + 1) = fd g j := by
  show (match g j with | none => fd g j | some x => _) = _
  rw [h]
theorem fd_s {g : Nat → Option (Nat × Nat)} {j : Nat} {x : Nat × Nat} (h : g j = some x) : fd g (j + 1) = (if x.1 < (fd g j).1 then x.1 else (fd g j).1, (fd g j).2.1 + x.2, if x.1 < (fd g j).1 then j else (fd g j).2.2) := by
  show (match g j with | none => fd g j | some x => _) = _
  rw [h]
theorem pI_n {c : Nat} (h : c ≤ 1000) : ¬ pI (some c) = -1 := by
  show ¬ nI c = -1
  intro e
  have k := congrArg Int32.toInt e
  rw [nI_toInt (by omega)] at k
  have k : (c : Int) = -1 := k
  omega
theorem nI_m1 {c : Nat} (h : c < 2 ^ 31) : ¬ nI c = -1 := by
  intro e
  have k := congrArg Int32.toInt e
  rw [nI_toInt (by omega)] at k
  have k : (c : Int) = -1 := k
  omega
def FI (q : Nat) (I J : am_I) (x : Nat × Nat × Nat) : Prop := frW q I J ∧ J q 0 = nI x.1 ∧ J q 1 = nI x.2.1 ∧ J q 10 = nI x.2.2
/-- the end of a round of weigh -/
theorem wb165 {T : Nat → Nat × Nat} {q : Nat} {I J : am_I} {y : Nat × Nat × Nat} {c b j : Nat} {v2 v3 v4 v6 v7 v10 s2 : Int32} {B E : Int32 → am_I → Prop} (k9 : (am_ts T q).1 = 9) (r : Nat → Nat → Option Nat) (h : FI q I J y) (e1 : v10 = nI c) (e2 : s2 = nI b) (hc : c < 2 ^ 31) (hy : y.1 < 2 ^ 31)
    (hB : ∀ G, FI q I G (if c < y.1 then c else y.1, y.2.1 + b, if c < y.1 then j else y.2.2) → B (nI j + 1) G) : wb_142_165 q v2 v3 v4 v6 v7 (nI j) v10 q (J q 1) s2 T r J B E := by
  unfold wb_142_165
  obtain ⟨f, g0, g1, g10⟩ := h
  refine ⟨k9, k9, ?_⟩
  subst e1 e2
  rw [g1, nb_add]
  have r0 : am_u J q 1 (nI (y.2.1 + b)) q 0 = nI y.1 := by rw [uu_n (by decide), g0]
  rw [r0]
  by_cases hlt : c < y.1
  · refine am_ifn (fun k => ?_) ⟨k9, k9, hB _ ?_⟩
    · have := (nb_le hy hc).mp k
      omega
    · rw [if_pos hlt, if_pos hlt]
      refine ⟨⟨fun z hz => ?_, fun z z0 z1 z10 => ?_⟩, ?_, ?_, ?_⟩
      · rw [uu_h hz, uu_h hz, uu_h hz]; exact f.1 z hz
      · rw [uu_n z10, uu_n z0, uu_n z1]; exact f.2 z z0 z1 z10
      · rw [uu_n (by decide), uu_e]
      · rw [uu_n (by decide), uu_n (by decide), uu_e]
      · rw [uu_e]
  · refine am_ifp ((nb_le hy hc).mpr (by omega)) (hB _ ?_)
    rw [if_neg hlt, if_neg hlt]
    refine ⟨⟨fun z hz => ?_, fun z z0 z1 z10 => ?_⟩, ?_, ?_, ?_⟩
    · rw [uu_h hz]; exact f.1 z hz
    · rw [uu_n z1]; exact f.2 z z0 z1 z10
    · exact r0
    · rw [uu_e]
    · rw [uu_n (by decide)]; exact g10
theorem l142 {T : Nat → Nat × Nat} {r : Nat → Nat → Option Nat} {q : Nat} {I : am_I} {P : PRI} {m M n : Nat} {h : List Nat} {x2 x3 : Int32} {E : Int32 → am_I → Prop} (q99 : 99 ≤ q) (ob : OB T r q) (hm : m ≤ 8) (em : I 1 10 = nI m) (hM : M < 2 ^ 31) (hP : ∀ p w b c, P p w b = some c → c ≤ 1000) (pt : PT I q P m) (hp : ∀ p ∈ h, p < 8) (hn : h.length + n = 5) (hd : ∀ p, p < 8 → (nI p = x3 ↔ h.head? = some p))
    (hx : (x2 = -1 ∧ n = 0) ∨ ∃ x, x < 495 ∧ x2 = nI x ∧ EN P m M I q x n h) (hE : ∀ u J, FI q I J (wy P m M (n + 1) h) → E u J) : ∀ k j J, j + k = m → FI q I J (fd (chd P M (wy P m M n) h) j) → lw_142_53 (k + 1) q (nI (shr h)) x2 x3 (nI (h.length * 2 * 8)) (nI M) (nI j) T r J E
  | 0, j, J, hj, hJ => by
    have e : j = m := by omega
    subst e
    unfold lw_142_53
    rw [hJ.1.1 1 (by omega), em, if_pos (nI_le (Nat.le_refl _) (by omega))]
    exact hE _ J hJ
  | k + 1, j, J, hj, hJ => by
    have ih := fun G => l142 (T := T) (r := r) q99 ob hm em hM hP pt hp hn hd hx hE k (j + 1) G (by omega)
    rw [nI_succ] at ih
    obtain ⟨k9, -, -, -, -, -, o7, o8, o9, -, -, -, -, -, t6, t7, t8⟩ := ob
    have gzj : gz (1000 * (n + 1)) (fd (chd P M (wy P m M n) h) j) := fd_gz (by omega) j (fun p x _ hx => chd_gz hP (fun p => wy_gz hP n (p :: h) (by omega)) p x hx)
    have y1 : (fd (chd P M (wy P m M n) h) j).1 < 2 ^ 31 := by
      rcases gzj with ⟨_, a⟩ | ⟨_, a⟩ <;> omega
    unfold lw_142_53
    rw [hJ.1.1 1 (by omega), em, if_neg (nI_ge (by omega) (by omega))]
    refine ⟨k9, _, o9, ?_⟩
    -- the place of the price
    have main : ∀ (s1 : Int32) (b : Nat), b < 2 → s1 = nI ((h.length * 2 + b) * 8 + j) → (if h.head? = some j then 1 else 0) = b → wb_142_89 q (nI (shr h)) x2 x3 (nI (h.length * 2 * 8)) (nI M) (nI j) (q + 8) s1 T r J (fun v8 I => lw_142_53 (k + 1) q (nI (shr h)) x2 x3 (nI (h.length * 2 * 8)) (nI M) v8 T r I E) E := by
      intro s1 b hb hs hbf
      unfold wb_142_89
      rw [t8]
      refine ⟨rfl, nb_gdx hs (by omega) (by decide), ?_⟩
      rw [nb_cl hs (by omega), hJ.1.1 (q + 8) (by omega), pt j h.length b (by omega) (by omega) hb]
      have ho : okp P M h j = if h.count j < M then P j h.length b else none := by unfold okp; rw [hbf]
      cases hpr : P j h.length b with
      | none =>
        refine am_ifp rfl (ih J ?_)
        have e : chd P M (wy P m M n) h j = none := by
          unfold chd
          rw [ho, hpr]
          by_cases z : h.count j < M
          · rw [if_pos z]
          · rw [if_neg z]
        rw [fd_n e]
        exact hJ
      | some c =>
        have c1 := hP _ _ _ _ hpr
        refine am_ifn (pI_n c1) ?_
        rw [dig_h hp (by omega) (by omega)]
        have cl := @List.count_le_length Nat _ j h
        by_cases z : h.count j < M
        · refine am_ifn (fun w => ?_) ?_
          · have := (nb_le hM (by omega)).mp w
            omega
          have e : chd P M (wy P m M n) h j = some (c + (wy P m M n (j :: h)).1, (wy P m M n (j :: h)).2.1) := by
            unfold chd
            rw [ho, if_pos z, hpr]
          have ih2 := ih
          rw [fd_s e] at ih2
          have gzs : gz (1000 * n) (wy P m M n (j :: h)) := wy_gz hP n (j :: h) (by omega)
          have y2 : c + (wy P m M n (j :: h)).1 < 2 ^ 31 := by
            rcases gzs with ⟨_, a⟩ | ⟨_, a⟩ <;> omega
          rcases hx with ⟨rfl, rfl⟩ | ⟨x, hx1, rfl, en⟩
          · refine am_ifp rfl ?_
            unfold wb_142_137
            refine ⟨k9, am_ifp rfl ?_⟩
            exact wb165 (c := c + (wy P m M 0 (j :: h)).1) (b := (wy P m M 0 (j :: h)).2.1) k9 r hJ rfl rfl y2 y1 (fun G hG => ih2 G hG)
          · refine am_ifn (nI_m1 (by omega)) ⟨k9, _, o7, ?_⟩
            rw [t6]
            have ex : nI x * 8 + nI j = nI (x * 8 + j) := by
              rw [show (8 : Int32) = nI 8 from rfl, nb_mul, nb_add]
            refine ⟨rfl, nb_gdx ex (by omega) (by decide), ?_⟩
            rw [nb_cl ex (by omega), hJ.1.1 (q + 6) (by omega), (en j (by omega)).1]
            unfold wb_142_137
            refine ⟨k9, am_ifn (nI_m1 (by omega)) ⟨k9, _, o8, ?_⟩⟩
            rw [t7]
            refine ⟨rfl, nb_gdx ex (by omega) (by decide), ?_⟩
            rw [nb_cl ex (by omega), hJ.1.1 (q + 7) (by omega), (en j (by omega)).2]
            exact wb165 (c := c + (wy P m M n (j :: h)).1) (b := (wy P m M n (j :: h)).2.1) k9 r hJ (nb_add _ _) rfl y2 y1 (fun G hG => ih2 G hG)
        · refine am_ifp ((nb_le hM (by omega)).mpr (by omega)) (ih J ?_)
          have e : chd P M (wy P m M n) h j = none := by
            unfold chd
            rw [ho, if_neg z]
          rw [fd_n e]
          exact hJ
    by_cases hh : h.head? = some j
    · refine am_ifp ((hd j (by omega)).mpr hh) (main _ 1 (by decide) ?_ (if_pos hh))
      rw [show (8 : Int32) = nI 8 from rfl, nb_add, nb_add]
      congr 1
      omega
    · refine am_ifn (fun w => hh ((hd j (by omega)).mp w)) (main _ 0 (by decide) ?_ (if_neg hh))
      rw [nb_add]
      congr 1
theorem q142 {T : Nat → Nat × Nat} {r : Nat → Nat → Option Nat} {q : Nat} {I : am_I} {P : PRI} {m M n : Nat} {h : List Nat} {x2 x3 : Int32} {K : am_I → Prop} (q99 : 99 ≤ q) (ob : OB T r q) (hm : m ≤ 8) (em : I 1 10 = nI m) (eM : I 12 1 = nI M) (hM : M < 2 ^ 31) (hP : ∀ p w b c, P p w b = some c → c ≤ 1000) (pt : PT I q P m) (hp : ∀ p ∈ h, p < 8) (hn : h.length + n = 5) (hd : ∀ p, p < 8 → (nI p = x3 ↔ h.head? = some p))
    (hx : (x2 = -1 ∧ n = 0) ∨ ∃ x, x < 495 ∧ x2 = nI x ∧ I (q + 3) x = nI h.length ∧ EN P m M I q x n h) (hK : ∀ J, FI q I J (wy P m M (n + 1) h) → K J) : w_142 q (nI (shr h)) x2 x3 T r I K := by
  have hx' : (x2 = -1 ∧ n = 0) ∨ ∃ x, x < 495 ∧ x2 = nI x ∧ EN P m M I q x n h := by
    rcases hx with a | ⟨x, a, b, _, d⟩
    · exact Or.inl a
    · exact Or.inr ⟨x, a, b, d⟩
  have main : ∀ s0 : Int32, s0 = nI h.length → wb_142_15 q (nI (shr h)) x2 x3 s0 T r I K := by
    intro s0 hs
    unfold wb_142_15
    have k9 := ob.1
    refine ⟨k9, k9, k9, m + 1, ?_⟩
    rw [eM, hs, show (nI h.length * 2) * 8 = nI (h.length * 2 * 8) by rw [show (2 : Int32) = nI 2 from rfl, show (8 : Int32) = nI 8 from rfl, nb_mul, nb_mul]]
    refine l142 (I := I) (E := fun _ I6 => K I6) q99 ob hm em hM hP pt hp hn hd hx' (fun _ J hJ => hK J hJ) m 0 _ (by omega) ?_
    refine ⟨⟨fun z hz => ?_, fun z z0 z1 z10 => ?_⟩, ?_, ?_, ?_⟩
    · rw [uu_h hz, uu_h hz, uu_h hz]
    · rw [uu_n z10, uu_n z1, uu_n z0]
    · rw [uu_n (by decide), uu_n (by decide), uu_e]; rfl
    · rw [uu_n (by decide), uu_e]; rfl
    · rw [uu_e]; rfl
  unfold w_142
  rcases hx with ⟨rfl, rfl⟩ | ⟨x, a, rfl, c, d⟩
  · exact am_ifp rfl (main 5 (by rw [show h.length = 5 by omega]; rfl))
  · obtain ⟨k9, -, -, o4, -, -, -, -, -, -, -, t3, -, -, -, -, -⟩ := ob
    refine am_ifn (nI_m1 (by omega)) ⟨k9, _, o4, ?_⟩
    rw [t3]
    refine ⟨rfl, nb_gd (by omega) (by decide), ?_⟩
    rw [nI_clamp (by omega : x < 2 ^ 31), c]
    exact main _ rfl
