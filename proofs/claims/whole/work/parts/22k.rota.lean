/-! rota: the reference's search -/
theorem m1_p (j : Nat) : nI j + (-1) + 1 = nI j := by
  rw [Int32.add_assoc, show (-1 : Int32) + 1 = 0 from rfl, Int32.add_zero]
def frS (I J : am_I) : Prop := (∀ c, c ≠ 66 → c ≠ 89 → c ≠ 90 → c ≠ 91 → c ≠ 92 → J c = I c) ∧ ∀ k, k ≠ 46 → k ≠ 47 → J 66 k = I 66 k
def LH (I J : am_I) (m : Nat) (h : List Nat) (S : SRC) (j : Nat) (fl : Bool) : Prop := frS I J ∧ (∀ i, i < h.length → J 89 i = nI (ro h i)) ∧ (∀ i, i < h.length → J 92 i = 1) ∧ J 89 h.length = nI j + (-1) ∧ J 92 h.length = b1 fl ∧ (fl = true → 1 ≤ j) ∧ (∀ p, p < m → J 91 p = nI (h.count p + (if fl = true ∧ p + 1 = j then 1 else 0))) ∧ FS J S
def EH (I J : am_I) (m : Nat) (h : List Nat) (S : SRC) : Prop := frS I J ∧ (∀ i, i < h.length → J 89 i = nI (ro h i)) ∧ (∀ i, i < h.length → J 92 i = 1) ∧ J 92 h.length = 0 ∧ (∀ p, p < m → J 91 p = nI (h.count p)) ∧ FS J S
theorem LH_of {I J : am_I} {m p : Nat} {h : List Nat} {S : SRC} (a : frS I J) (b : ∀ i, i < (p :: h).length → J 89 i = nI (ro (p :: h) i)) (c : ∀ i, i < (p :: h).length → J 92 i = 1) (e : ∀ q, q < m → J 91 q = nI ((p :: h).count q)) (f : FS J S) : LH I J m h S (p + 1) true := by
  have len : (p :: h).length = h.length + 1 := rfl
  refine ⟨a, fun i hi => ?_, fun i hi => c i (by omega), ?_, ?_, fun _ => by omega, fun q hq => ?_, f⟩
  · rw [b i (by omega), ro_l p h hi]
  · rw [b h.length (by omega), ro_e, m1_s]
  · rw [c h.length (by omega)]; rfl
  · rw [e q hq, List.count_cons]
    by_cases z : p = q
    · subst z
      rw [if_pos (by simp), if_pos ⟨rfl, rfl⟩]
    · rw [if_neg (by simp [z]), if_neg (fun k => z (by omega))]
theorem EH_LH {I J : am_I} {m p : Nat} {h : List Nat} {S : SRC} (e : EH I J m (p :: h) S) : LH I J m h S (p + 1) true := LH_of e.1 e.2.1 e.2.2.1 e.2.2.2.2.1 e.2.2.2.2.2
theorem q274 {m k j : Nat} {w : Int32} {fl : Bool} {h : List Nat} {J : am_I} {K : am_I → Prop} (hm : m ≤ 8) (hk : k < 7) (hj : j ≤ m) (e89 : J 89 k = w) (hw : w = nI j + (-1)) (e92 : J 92 k = b1 fl) (hfl : fl = true → 1 ≤ j) (c91 : ∀ p, p < m → J 91 p = nI (h.count p + (if fl = true ∧ p + 1 = j then 1 else 0))) (em : J 68 1 = nI m) (hK : ∀ G, (∀ c, c ≠ 91 → c ≠ 92 → G c = J c) → (∀ i, i ≠ k → G 92 i = J 92 i) → G 92 k = 0 → (∀ p, p < m → G 91 p = nI (h.count p)) → K G) : w_274 (nI k) J K := by
  have g7 : ¬ (nI k < 0 ∨ 7 ≤ Int32.toNatClampNeg (nI k)) := nb_gd (by omega) (by decide)
  have nf : fl = false → K J := fun e => by
    subst e
    exact hK J (fun _ _ _ => rfl) (fun _ _ => rfl) e92 (fun p hp => by rw [c91 p hp, if_neg (fun q => absurd q.1 (by decide)), Nat.add_zero])
  unfold w_274
  rw [if_neg (nI_pos (by omega))]
  refine ⟨g7, ?_⟩
  rw [nI_clamp (by omega : k < 2 ^ 31)] at g7 ⊢
  rw [e89]
  rcases Nat.eq_zero_or_pos j with j0 | j0
  · subst j0
    refine am_ifp (m1_lt w hw) (nf ?_)
    cases fl with
    | false => rfl
    | true => exact absurd (hfl rfl) (by decide)
  · obtain ⟨j', rfl⟩ : ∃ j', j = j' + 1 := ⟨j - 1, by omega⟩
    rw [m1_s] at hw
    subst hw
    refine am_ifn (nI_pos (by omega)) ⟨g7, ?_⟩
    rw [em]
    refine am_ifn (nI_ge (by omega) (by omega)) ⟨g7, ?_⟩
    rw [e92]
    cases fl with
    | false => exact am_ifp rfl (nf rfl)
    | true =>
      refine am_ifn (show ¬ b1 true = 0 by decide) ⟨g7, nb_gd (by omega) (by decide), nb_gd (by omega) (by decide), g7, ?_⟩
      rw [nI_clamp (by omega : j' < 2 ^ 31), c91 j' (by omega), if_pos ⟨rfl, rfl⟩, s1_s]
      refine hK _ (fun c c1 c2 => ?_) (fun i hi => ?_) ?_ (fun p hp => ?_)
      · rw [uu_h c2, uu_h c1]
      · rw [uu_n hi, uu_c (by decide)]
      · rw [uu_e]; rfl
      · rw [uu_c (by decide)]
        by_cases z : p = j'
        · subst z; rw [uu_e]
        · rw [uu_n z, c91 p hp, if_neg (fun q => z (by omega)), Nat.add_zero]
theorem q237r {J : am_I} {M : Nat} {K : Int32 → Prop} (e : J 68 6 = nI M) (hK : K (nI M)) : w_237 1 J K := by
  unfold w_237
  refine ⟨by decide, ?_⟩
  rw [show Int32.toNatClampNeg (5 + 1) = 6 from rfl, e]
  exact hK
theorem sstep {I J : am_I} {L : am_J} {E : Int32 → am_I → Prop} {P : PRI} {m M j u : Nat} {h : List Nat} {S : SRC} {fl : Bool} (hm : m ≤ 8) (hM : M < 2 ^ 31) (em : I 68 1 = nI m) (eM : I 68 6 = nI M) (rt : RTs I P m (12 * m)) (hP : ∀ p w b c, P p w b = some c → c ≤ 1000) (hl : h.length ≤ 5) (hp : ∀ p ∈ h, p < m) (hv : vp P h) (hj : j ≤ m) (lh : LH I J m h S j fl)
    (hend : j = m → ∀ G w, w = nI h.length + (-1) → EH I G m h S → lw_272_25 u w G L E)
    (hskip : j < m → okp P M h j = none → ∀ G, LH I G m h S (j + 1) false → lw_272_25 u (nI h.length) G L E)
    (htake : j < m → ∀ c, okp P M h j = some c → h.length < 5 → ∀ G, LH I G m (j :: h) S 0 false → lw_272_25 u (nI (h.length + 1)) G L E)
    (hleaf : j < m → ∀ c, okp P M h j = some c → h.length = 5 → ∀ G, LH I G m h (vis P m M 0 (j :: h) (cst P (j :: h)) S) (j + 1) true → lw_272_25 u (nI h.length) G L E) : lw_272_25 (u + 1) (nI h.length) J L E := by
  obtain ⟨f, a89, a92, e89, e92, hfl, c91, fs⟩ := lh
  generalize hw : nI j + (-1) = w at e89
  have hw1 : w + 1 = nI j := by rw [← hw, m1_p]
  have e68 : J 68 = I 68 := f.1 68 (by decide) (by decide) (by decide) (by decide) (by decide)
  have e88 : J 88 = I 88 := f.1 88 (by decide) (by decide) (by decide) (by decide) (by decide)
  have g7 : ¬ (nI h.length < 0 ∨ 7 ≤ Int32.toNatClampNeg (nI h.length)) := nb_gd (by omega) (by decide)
  have g7' : ¬ (nI h.length < 0 ∨ 7 ≤ h.length) := by
    have k := g7
    rw [nI_clamp (by omega)] at k
    exact k
  have cl := @List.count_le_length Nat _ j h
  unfold lw_272_25
  generalize hq : nI h.length + (-1) = wq
  rw [if_neg (nI_pos (by omega))]
  refine q274 (m := m) (h := h) hm (by omega) hj e89 hw.symm e92 hfl c91 (by rw [e68]; exact em) (fun G gc g92 g92k g91 => ⟨g7, g7, g7, ?_⟩)
  rw [nI_clamp (by omega : h.length < 2 ^ 31), gc 89 (by decide) (by decide), e89, hw1, uu_e, gc 68 (by decide) (by decide), e68, em]
  have fG : frS I (am_u G 89 h.length (nI j)) := ⟨fun c c1 c2 c3 c4 c5 => by rw [uu_h c2, gc c c4 c5]; exact f.1 c c1 c2 c3 c4 c5, fun k k1 k2 => by rw [uu_c (by decide), gc 66 (by decide) (by decide)]; exact f.2 k k1 k2⟩
  have H89 : ∀ i, i < h.length → am_u G 89 h.length (nI j) 89 i = nI (ro h i) := fun i hi => by rw [uu_n (by omega), gc 89 (by decide) (by decide)]; exact a89 i hi
  have H92 : ∀ i, i < h.length → am_u G 89 h.length (nI j) 92 i = 1 := fun i hi => by rw [uu_c (by decide), g92 i (by omega)]; exact a92 i hi
  have HF : FS (am_u G 89 h.length (nI j)) S := by
    unfold FS
    rw [uu_h (by decide : (66 : Nat) ≠ 89), uu_h (by decide : (90 : Nat) ≠ 89), gc 66 (by decide) (by decide), gc 90 (by decide) (by decide)]
    exact fs
  by_cases hjm : j < m
  · rw [if_pos ((nb_lt (by omega) (by omega)).mpr hjm), nI_clamp (by omega : j < 2 ^ 31)]
    have g8 : ¬ (nI j < 0 ∨ 8 ≤ j) := fun k => by
      rcases k with k | k
      · exact absurd k (nI_pos (by omega))
      · omega
    have skip : okp P M h j = none → lw_272_25 u (nI h.length) (am_u G 89 h.length (nI j)) L E := fun e => hskip hjm e _ ⟨fG, H89, H92, by rw [uu_e, m1_s], by rw [uu_c (by decide)]; exact g92k, fun k => absurd k (by decide), fun p hp' => by rw [uu_c (by decide), g91 p hp', if_neg (fun q => absurd q.1 (by decide)), Nat.add_zero], HF⟩
    refine ⟨g7', g8, q237r (M := M) (by rw [uu_h (by decide), gc 68 (by decide) (by decide), e68]; exact eM) ?_⟩
    rw [g91 j hjm]
    by_cases z : h.count j < M
    · refine am_ifn (fun k => ?_) ?_
      · have := (nb_le hM (by omega)).mp k
        omega
      refine q275 (P := P) (m := m) (j := j) hm hjm hl (fun p hp' => by have := hp p hp'; omega) (RTs_cg rt (by rw [uu_h (by decide), gc 88 (by decide) (by decide), e88])) H89 uu_e ?_
      have ho : okp P M h j = P j h.length (if h.head? = some j then 1 else 0) := if_pos z
      rw [← ho]
      cases hc : okp P M h j with
      | none => exact am_ifp rfl (skip hc)
      | some c =>
        have c1 : c ≤ 1000 := hP _ _ _ _ (ho.symm.trans hc)
        refine am_ifn (pI_n c1) ⟨g7', g8, g8, g7', ?_⟩
        rw [← nI_succ, show vp_nar .boolean 1 = 1 from rfl, show vp_nar .boolean 0 = 0 from rfl]
        have hv2 : vp P (j :: h) := ⟨hv, c, ho.symm.trans hc⟩
        have hp2 : ∀ p ∈ j :: h, p < m := fun p hp' => by
          rcases List.mem_cons.mp hp' with rfl | h2
          · exact hjm
          · exact hp p h2
        have len : (j :: h).length = h.length + 1 := rfl
        have f3 : frS I (am_u (am_u (am_u G 89 h.length (nI j)) 91 j (nI (h.count j + 1))) 92 h.length 1) := ⟨fun c c1 c2 c3 c4 c5 => by rw [uu_h c5, uu_h c4]; exact fG.1 c c1 c2 c3 c4 c5, fun k k1 k2 => by rw [uu_c (by decide), uu_c (by decide)]; exact fG.2 k k1 k2⟩
        have b89 : ∀ i, i < h.length + 1 → am_u (am_u (am_u G 89 h.length (nI j)) 91 j (nI (h.count j + 1))) 92 h.length 1 89 i = nI (ro (j :: h) i) := fun i hi => by
          rw [uu_c (by decide), uu_c (by decide)]
          by_cases y : i = h.length
          · rw [y, uu_e, ro_e]
          · rw [H89 i (by omega), ro_l j h (by omega)]
        have b92 : ∀ i, i < h.length + 1 → am_u (am_u (am_u G 89 h.length (nI j)) 91 j (nI (h.count j + 1))) 92 h.length 1 92 i = 1 := fun i hi => by
          by_cases y : i = h.length
          · rw [y, uu_e]
          · rw [uu_n y, uu_c (by decide)]; exact H92 i (by omega)
        have b91 : ∀ p, p < m → am_u (am_u (am_u G 89 h.length (nI j)) 91 j (nI (h.count j + 1))) 92 h.length 1 91 p = nI ((j :: h).count p) := fun p hp' => by
          rw [uu_c (by decide), List.count_cons]
          by_cases y : p = j
          · rw [y, uu_e, if_pos (by simp)]
          · rw [uu_n y, uu_c (by decide), g91 p hp', if_neg (by simp; omega), Nat.add_zero]
        have bF : FS (am_u (am_u (am_u G 89 h.length (nI j)) 91 j (nI (h.count j + 1))) 92 h.length 1) S := by
          unfold FS at HF ⊢
          rw [uu_h (by decide : (66 : Nat) ≠ 92), uu_h (by decide : (66 : Nat) ≠ 91), uu_h (by decide : (90 : Nat) ≠ 92), uu_h (by decide : (90 : Nat) ≠ 91)]
          exact HF
        have b88 : am_u (am_u (am_u G 89 h.length (nI j)) 91 j (nI (h.count j + 1))) 92 h.length 1 88 = I 88 := f3.1 88 (by decide) (by decide) (by decide) (by decide) (by decide)
        generalize am_u (am_u (am_u G 89 h.length (nI j)) 91 j (nI (h.count j + 1))) 92 h.length 1 = B at f3 b89 b92 b91 bF b88
        by_cases y : h.length = 5
        · refine am_ifp (by rw [y]; rfl) ?_
          refine q276 (P := P) (m := m) (M := M) (h := j :: h) (S := S) hm hP (by omega) hp2 hv2 (RTs_cg rt b88) (fun i hi => b89 i (by omega)) bF (fun F hF1 hF2 => ?_)
          exact hleaf hjm c hc y F (LH_of (p := j) ⟨fun c c1 c2 c3 c4 c5 => (hF1.1 c c1 c3).trans (f3.1 c c1 c2 c3 c4 c5), fun k k1 k2 => (hF1.2 k k1 k2).trans (f3.2 k k1 k2)⟩ (fun i hi => by rw [hF1.1 89 (by decide) (by decide)]; exact b89 i hi) (fun i hi => by rw [hF1.1 92 (by decide) (by decide)]; exact b92 i hi) (fun p hp' => by rw [hF1.1 91 (by decide) (by decide)]; exact b91 p hp') hF2)
        · refine am_ifn (fun k => y ((nb_inj (b := 5) (by omega) (by decide)).mp k)) ?_
          rw [← nI_succ]
          refine ⟨nb_gd (by omega) (by decide), nb_gd (by omega) (by decide), ?_⟩
          rw [nI_clamp (by omega : h.length + 1 < 2 ^ 31)]
          refine htake hjm c hc (by omega) _ ⟨⟨fun c c1 c2 c3 c4 c5 => by rw [uu_h c5, uu_h c2]; exact f3.1 c c1 c2 c3 c4 c5, fun k k1 k2 => by rw [uu_c (by decide), uu_c (by decide)]; exact f3.2 k k1 k2⟩, fun i hi => ?_, fun i hi => ?_, ?_, ?_, fun k => absurd k (by decide), fun p hp' => ?_, ?_⟩
          · rw [uu_c (by decide), uu_n (by omega)]; exact b89 i hi
          · rw [uu_n (by omega), uu_c (by decide)]; exact b92 i hi
          · rw [len, uu_c (by decide), uu_e]; decide
          · rw [len, uu_e]; rfl
          · rw [uu_c (by decide), uu_c (by decide), b91 p hp', if_neg (fun q => absurd q.1 (by decide)), Nat.add_zero]
          · unfold FS at bF ⊢
            rw [uu_h (by decide : (66 : Nat) ≠ 92), uu_h (by decide : (66 : Nat) ≠ 89), uu_h (by decide : (90 : Nat) ≠ 92), uu_h (by decide : (90 : Nat) ≠ 89)]
            exact bF
    · refine am_ifp ((nb_le hM (by omega)).mpr (by omega)) (skip (if_neg z))
  · rw [if_neg (fun k => hjm ((nb_lt (by omega) (by omega)).mp k))]
    exact hend (by omega) _ _ hq.symm ⟨fG, H89, H92, by rw [uu_c (by decide)]; exact g92k, fun p hp' => by rw [uu_c (by decide)]; exact g91 p hp', HF⟩
theorem srch {I : am_I} {L : am_J} {E : Int32 → am_I → Prop} {P : PRI} {m M : Nat} (hm : m ≤ 8) (hM : M < 2 ^ 31) (em : I 68 1 = nI m) (eM : I 68 6 = nI M) (rt : RTs I P m (12 * m)) (hP : ∀ p w b c, P p w b = some c → c ≤ 1000) : ∀ (n : Nat) (h : List Nat) (S : SRC), h.length + n = 5 → (∀ p ∈ h, p < m) → vp P h → (∃ u1, ∀ u, u1 ≤ u → ∀ J w, w = nI h.length + (-1) → EH I J m h (vis P m M (n + 1) h (cst P h) S) → lw_272_25 u w J L E) → ∀ k j, j + k = m → ∃ u0, ∀ u, u0 ≤ u → ∀ fl J, LH I J m h (vij P m M n h (cst P h) S j) j fl → lw_272_25 u (nI h.length) J L E := by
  intro n
  induction n with
  | zero =>
    intro h S hl hp hv ⟨u1, hE⟩ k
    induction k with
    | zero =>
      intro j hj
      refine ⟨u1 + 1, fun u hu fl J lh => ?_⟩
      obtain ⟨v, rfl⟩ : ∃ v, u = v + 1 := ⟨u - 1, by omega⟩
      have ejm : j = m := by omega
      subst ejm
      exact sstep hm hM em eM rt hP (by omega) hp hv (Nat.le_refl _) lh (fun _ G w hw eh => hE v (by omega) G w hw eh) (fun q => absurd q (Nat.lt_irrefl _)) (fun q => absurd q (Nat.lt_irrefl _)) (fun q => absurd q (Nat.lt_irrefl _))
    | succ k ih =>
      intro j hj
      obtain ⟨u2, h2⟩ := ih (j + 1) (by omega)
      refine ⟨u2 + 1, fun u hu fl J lh => ?_⟩
      obtain ⟨v, rfl⟩ : ∃ v, u = v + 1 := ⟨u - 1, by omega⟩
      refine sstep hm hM em eM rt hP (by omega) hp hv (by omega) lh (fun q => absurd q (by omega)) (fun _ e G g => h2 v (by omega) false G ?_) (fun _ c _ q => absurd q (by omega)) (fun _ c e _ G g => h2 v (by omega) true G ?_)
      · rw [vij_n e]; exact g
      · rw [vij_s hP (by omega) e, ← cst_c e]; exact g
  | succ n ihn =>
    intro h S hl hp hv ⟨u1, hE⟩ k
    induction k with
    | zero =>
      intro j hj
      refine ⟨u1 + 1, fun u hu fl J lh => ?_⟩
      obtain ⟨v, rfl⟩ : ∃ v, u = v + 1 := ⟨u - 1, by omega⟩
      have ejm : j = m := by omega
      subst ejm
      exact sstep hm hM em eM rt hP (by omega) hp hv (Nat.le_refl _) lh (fun _ G w hw eh => hE v (by omega) G w hw eh) (fun q => absurd q (Nat.lt_irrefl _)) (fun q => absurd q (Nat.lt_irrefl _)) (fun q => absurd q (Nat.lt_irrefl _))
    | succ k ih =>
      intro j hj
      obtain ⟨u2, h2⟩ := ih (j + 1) (by omega)
      cases hc : okp P M h j with
      | none =>
        refine ⟨u2 + 1, fun u hu fl J lh => ?_⟩
        obtain ⟨v, rfl⟩ : ∃ v, u = v + 1 := ⟨u - 1, by omega⟩
        refine sstep hm hM em eM rt hP (by omega) hp hv (by omega) lh (fun q => absurd q (by omega)) (fun _ e G g => h2 v (by omega) false G ?_) (fun _ c e => absurd (hc.symm.trans e) (by simp)) (fun _ c e => absurd (hc.symm.trans e) (by simp))
        rw [vij_n e]; exact g
      | some c =>
        have hpc : P j h.length (if h.head? = some j then 1 else 0) = some c := by
          unfold okp at hc
          split at hc
          · exact hc
          · exact absurd hc (by simp)
        obtain ⟨u3, h3⟩ := ihn (j :: h) (vij P m M (n + 1) h (cst P h) S j) (by rw [List.length_cons]; omega) (fun p hp' => by
          rcases List.mem_cons.mp hp' with rfl | h2
          · omega
          · exact hp p h2) ⟨hv, c, hpc⟩ ⟨u2, fun u hu J w hw eh => by
            rw [List.length_cons, m1_s] at hw
            rw [hw]
            refine h2 u hu true J ?_
            rw [vij_s hP (by omega) hc, ← cst_c hc]
            exact EH_LH eh⟩ m 0 (by omega)
        refine ⟨u3 + 1, fun u hu fl J lh => ?_⟩
        obtain ⟨v, rfl⟩ : ∃ v, u = v + 1 := ⟨u - 1, by omega⟩
        refine sstep hm hM em eM rt hP (by omega) hp hv (by omega) lh (fun q => absurd q (by omega)) (fun _ e => absurd (hc.symm.trans e) (by simp)) (fun _ c' e' _ G g => h3 v (by omega) false G ?_) (fun _ c' e' q => absurd q (by omega))
        rw [vij_0]; exact g
