/-! cut, by the reference -/
theorem sh0 : ∀ d, d < 31 → ((0 : Int32) <<< (nI d &&& 31)) = 0 := by decide +kernel
theorem l269a {I : am_I} {n w : Nat} {x1 x2 : Int32} {E : Int32 → Int32 → Prop} (hn : n ≤ 12) (en : I 68 0 = nI n) (hd : ∀ d, d < n → I 68 (60 + 3 * d) = nI (bi w d)) (hE : E (nI (acc (fun d => decide (bi w d = 1)) n)) (nI n)) : ∀ k j, j + k = n → lw_269_42 (k + 1) x1 x2 (nI (acc (fun d => decide (bi w d = 1)) j)) (nI j) I E
  | 0, j, h => by
    have hj : j = n := by omega
    subst hj
    unfold lw_269_42
    rw [en, if_pos (nI_le (Nat.le_refl _) (by omega))]
    exact hE
  | k + 1, j, h => by
    have ih := l269a (x1 := x1) (x2 := x2) hn en hd hE k (j + 1) (by omega)
    unfold lw_269_42
    rw [en, if_neg (nI_ge (by omega) (by omega))]
    refine q250 (d := j) (k := 2) (by omega) (by decide) (v := nI (bi w j)) (by rw [show 58 + 3 * j + 2 = 60 + 3 * j by omega]; exact hd j (by omega)) ?_
    rw [← nI_succ]
    have ea : acc (fun d => decide (bi w d = 1)) (j + 1) = (if decide (bi w j = 1) = true then acc (fun d => decide (bi w d = 1)) j ||| 2 ^ j else acc (fun d => decide (bi w d = 1)) j) := rfl
    rw [ea] at ih
    have bl := bi_lt w j
    rcases (by omega : bi w j = 0 ∨ bi w j = 1) with z | z
    · rw [z] at ih ⊢
      rw [show (nI 0 <<< (nI j &&& 31)) = nI 0 from sh0 j (by omega), fa_or, Nat.or_zero]
      exact ih
    · rw [z] at ih ⊢
      rw [show (nI 1 <<< (nI j &&& 31)) = nI (2 ^ j) from q1s j (by omega), fa_or]
      exact ih
/-- the best set so far -/
def bst (G : Nat → Prop) (s : Nat) (v4 v5 : Int32) : Prop := (v4 = 100000000 ∧ v5 = 0 ∧ ∀ s', s' < s → ¬ G s') ∨ ∃ t, t < s ∧ v4 = nI (pc t) ∧ v5 = nI t ∧ G t ∧ ∀ s', s' < s → G s' → le2 t s'
theorem bst_no {G : Nat → Prop} {s : Nat} {v4 v5 : Int32} (h : bst G s v4 v5) (hs : ¬ G s) : bst G (s + 1) v4 v5 := by
  rcases h with ⟨h1, h2, h3⟩ | ⟨t, h1, h2, h3, h4, h5⟩
  · refine Or.inl ⟨h1, h2, fun s' hs' => ?_⟩
    by_cases e : s' = s
    · rw [e]; exact hs
    · exact h3 s' (by omega)
  · refine Or.inr ⟨t, by omega, h2, h3, h4, fun s' hs' g => ?_⟩
    by_cases e : s' = s
    · rw [e] at g; exact absurd g hs
    · exact h5 s' (by omega) g
theorem bst_old {G : Nat → Prop} {s : Nat} {v4 v5 : Int32} (h : bst G s v4 v5) (hv : v4 ≤ nI (pc s)) : bst G (s + 1) v4 v5 := by
  have pl := pc_le s
  rcases h with ⟨h1, h2, h3⟩ | ⟨t, h1, h2, h3, h4, h5⟩
  · rw [h1] at hv
    exact absurd hv (nI_ge (b := 100000000) (by omega) (by decide))
  · have pt := pc_le t
    rw [h2, nb_le (by omega) (by omega)] at hv
    refine Or.inr ⟨t, by omega, h2, h3, h4, fun s' hs' g => ?_⟩
    by_cases e : s' = s
    · rw [e]
      unfold le2
      omega
    · exact h5 s' (by omega) g
theorem bst_new {G : Nat → Prop} {s : Nat} {v4 v5 : Int32} (h : bst G s v4 v5) (hv : ¬ v4 ≤ nI (pc s)) (hs : G s) : bst G (s + 1) (nI (pc s)) (nI s) := by
  have pl := pc_le s
  refine Or.inr ⟨s, by omega, rfl, rfl, hs, fun s' hs' g => ?_⟩
  by_cases e : s' = s
  · rw [e]
    exact le2_rf s
  · rcases h with ⟨h1, h2, h3⟩ | ⟨t, h1, h2, h3, h4, h5⟩
    · exact absurd g (h3 s' (by omega))
    · have pt := pc_le t
      rw [h2, nb_le (by omega) (by omega)] at hv
      have q := h5 s' (by omega) g
      unfold le2 at q ⊢
      omega
def cgd (a b : Nat → Nat) (n ky w x s : Nat) : Prop := s &&& w = 0 ∧ ¬ RK a b n (ud ky s w) x 9 0
theorem l269b {I : am_I} {m n p w x : Nat} {x2 : Int32} {a b : Nat → Nat} {E : Int32 → Int32 → Int32 → am_I → Prop} (hm : m ≤ 8) (hpm : p < m) (hn : n ≤ 12) (hw : w < 2 ^ n) (hx : x < 10) (em : I 68 1 = nI m) (en : I 68 0 = nI n) (ex : I 68 (10 + p) = nI x) (hk : ∀ q, q < m → ∃ x, x < 4096 ∧ I 68 (18 + q) = nI x) (hd : ∀ d, d < n → I 68 (60 + 3 * d) = nI (bi w d) ∧ a d < 10 ∧ b d < 10 ∧ a d ≠ b d ∧ I 68 (58 + 3 * d) = nI (a d) ∧ I 68 (59 + 3 * d) = nI (b d))
    (hE : ∀ J v4 v5, (∀ c, c ≠ 87 → J c = I c) → bst (cgd a b n (kyo (I 68) m p) w x) (2 ^ n) v4 v5 → E v4 v5 (nI (2 ^ n)) J) : ∀ q s J v4 v5, s + q = 2 ^ n → (∀ c, c ≠ 87 → J c = I c) → bst (cgd a b n (kyo (I 68) m p) w x) s v4 v5 → lw_269_83 (q + 1) (nI p) x2 (nI w) v4 v5 (nI s) J E
  | 0, s, J, v4, v5, h, hJ, hb => by
    have P : 2 ^ n ≤ 2 ^ 12 := Nat.pow_le_pow_right (by decide) hn
    have hj : s = 2 ^ n := by omega
    subst hj
    unfold lw_269_83
    rw [hJ 68 (by decide), en, q1s n (by omega), if_pos (nI_le (Nat.le_refl _) (by omega))]
    exact hE J v4 v5 hJ hb
  | q + 1, s, J, v4, v5, h, hJ, hb => by
    have P : 2 ^ n ≤ 2 ^ 12 := Nat.pow_le_pow_right (by decide) hn
    have ih := l269b (x2 := x2) hm hpm hn hw hx em en ex hk hd hE q (s + 1)
    have J68 : J 68 = I 68 := hJ 68 (by decide)
    unfold lw_269_83
    rw [J68, en, q1s n (by omega), if_neg (nI_ge (by omega) (by omega)), nx_and, ← nI_succ]
    have al : s &&& w ≤ s := Nat.and_le_left
    by_cases c0 : s &&& w = 0
    · rw [if_pos (by rw [c0]; rfl)]
      refine q236 (by omega) ?_
      by_cases c1 : v4 ≤ nI (pc s)
      · refine am_ifp c1 ?_
        exact ih J v4 v5 (by omega) hJ (bst_old hb c1)
      · refine am_ifn c1 ?_
        refine q267 (I := J) (s := s) (w := w) (a := a) (b := b) (x := x) hm hpm hn hx (by omega) (by rw [J68]; exact em) (by rw [J68]; exact en) (by rw [J68]; exact ex) (by rw [J68]; exact hk) (by rw [J68]; exact hd) (fun J' u hJ' hu => ?_)
        rw [J68] at hu
        have k1 : ∀ c, c ≠ 87 → J' c = I c := fun c hc => (hJ' c hc).trans (hJ c hc)
        rcases hu with ⟨i, j1, j2, j3, j4⟩ | ⟨j1, j2⟩
        · refine am_ifn (by rw [j2]; exact far_ne (by omega)) ?_
          exact ih J' v4 v5 (by omega) k1 (bst_no hb (fun g => g.2 (RK_le (by omega) j3)))
        · refine am_ifp j1 ?_
          refine q236 (by omega) ?_
          exact ih J' _ _ (by omega) k1 (bst_new hb c1 ⟨c0, j2⟩)
    · rw [if_neg (nz0 (by omega) c0)]
      exact ih J v4 v5 (by omega) hJ (bst_no hb (fun g => c0 g.1))
theorem o_25 {D : am_P} (hD : FrD D) {N : Nat} {T : Nat → Nat × Nat} {r : Nat → Nat → Option Nat} {I : am_I} {L : am_J} (h : Inv D N T r I L) (x1 x2 : Int32) : op_25 x1 x2 (Inv D) N T r I L := by
  unfold op_25 w_129
  obtain ⟨m, v, hm, hv, e1, e2, e3, hp⟩ := h.1.2.1
  obtain ⟨n, w, a, b, hn, hw, d1, d2, d3, hdr, hdc⟩ := door_ab h.1.1
  have i0 := inv_0 hD h
  rcases qm hm e1 e2 x1 with ⟨a1, a2, _⟩ | ⟨a1, a2, p, hpm, rfl⟩
  · rw [if_pos a1]
    show w_269 _ _ _ _
    unfold w_269
    exact am_ifp a2 ⟨rfl, i0⟩
  rw [if_neg (by rw [a1]; decide)]
  have b2 : ∀ J : am_I, J 68 = I 68 → ¬ f_192 (nI p) (am_u J 66 0 0) = 0 := by
    intro J hJ
    have q : f_192 (nI p) (am_u J 66 0 0) = f_192 (nI p) I := by
      unfold f_192
      rw [uu_c (by decide), hJ]
    rw [q, a2]
    decide
  obtain ⟨x, hx, x1', x2'⟩ := (pp_k hp).2.2 p hpm
  obtain ⟨g10, c10⟩ := ixa (a := 10) (n := p) (by omega)
  have c10 : Int32.toNatClampNeg (10 + nI p) = 10 + p := c10
  refine ⟨nb_gd (by omega) (by decide), ?_⟩
  rw [nI_clamp (by omega : p < 2 ^ 31), x1']
  by_cases c0 : x = 0
  · rw [if_pos (by rw [c0]; rfl)]
    show w_269 _ _ _ _
    unfold w_269
    refine am_ifn (b2 I rfl) ⟨g10, am_ifp ?_ ⟨rfl, i0⟩⟩
    rw [c10, x2', c0]
    rfl
  have n0 : ¬ nI x = 0 := fun e => c0 ((nb_inj (b := 0) (by omega) (by decide)).mp e)
  rw [if_neg n0]
  rcases q18 x2 with ⟨b1', b3, _, _⟩ | ⟨b1', b3, bb, hbb, _⟩
  · rw [if_pos b1']
    show w_269 _ _ _ _
    unfold w_269
    refine am_ifn (b2 I rfl) ⟨g10, am_ifn ?_ ?_⟩
    · rw [c10, x2']
      exact n0
    · rw [b182]
      exact am_ifp b3 ⟨rfl, i0⟩
  rw [if_neg (by rw [b1']; decide)]
  have hab : ∀ d, d < n → a d ≠ b d := fun d hd => (hdr d hd).2.2.2.1
  have hlt : ∀ d, d < n → a d < 10 ∧ b d < 10 := fun d hd => (hdc d hd).2.2
  refine q130 hm hpm hn e1 d1 d3 hx x1' hp hdc hab (fun J B hJ hB1 hB2 => ?_)
  have J68 : J 68 = I 68 := hJ 68 (by decide) (by decide)
  have e68 : am_u J 66 0 0 68 = I 68 := by rw [uu_h (by decide), J68]
  have iJ : Inv D N T r (am_u J 66 0 0) L := inv_0 hD (inv_scr hD h (fun c hc => hJ c (by omega) (by omega)))
  obtain ⟨gB, hgB⟩ := hB1
  have P : 2 ^ n ≤ 2 ^ 12 := Nat.pow_le_pow_right (by decide) hn
  have Bl : B < 2 ^ n := by rw [hgB]; exact prt_lt _ _ _ _ _ _
  have gB' : cgd a b n (kyo (I 68) m p) w x B := by
    rw [hgB]
    have q := prt_good (a := a) (b := b) (ky := kyo (I 68) m p) (w := w) (n := n) (x := x) (g := gB) hn c0
    exact ⟨q.1, q.2 9⟩
  have fin : ∀ v4 v5, bst (cgd a b n (kyo (I 68) m p) w x) (2 ^ n) v4 v5 → v4 = nI (pc B) ∧ v5 = nI B := by
    intro v4 v5 hb
    rcases hb with ⟨_, _, h3⟩ | ⟨t, h1, h2, h3, h4, h5⟩
    · exact absurd gB' (h3 B Bl)
    · obtain ⟨g, g1, g2⟩ := prt_of hn hx hlt h4.2
      have t1 := h5 B Bl gB'
      have t2 := le2_tr (hB2 g g1) (le2_sub g2)
      have e := le2_as t1 t2
      rw [← e]
      exact ⟨h2, h3⟩
  have mdl : ∀ q : Int32, (x2 = 0 → q = nI (pc B)) → (¬ x2 = 0 → q = nI B) → w_269 (nI p) x2 J (fun q2 I2 => q = q2 ∧ Inv D N T r I2 L) := by
    intro q g1 g2
    unfold w_269
    refine am_ifn (b2 J J68) ⟨g10, am_ifn ?_ ?_⟩
    · rw [c10, J68, x2']
      exact n0
    rw [b182]
    refine am_ifn (by rw [b3]; decide) ?_
    refine ⟨n + 1, l269a (I := am_u J 66 0 0) (n := n) (w := w) hn (by rw [e68]; exact d2) (fun d hd => by rw [e68]; exact (hdr d hd).1) ?_ n 0 (by omega)⟩
    rw [acc_of hw]
    refine ⟨2 ^ n + 1, l269b (I := am_u J 66 0 0) (m := m) (n := n) (p := p) (w := w) (x := x) (a := a) (b := b) hm hpm hn hw hx (by rw [e68]; exact e2) (by rw [e68]; exact d2) (by rw [e68]; exact x2') (by rw [e68]; exact (pp_k hp).2.1) (by rw [e68]; exact hdr) (fun J' v4 v5 hJ' hb => ?_) (2 ^ n) 0 _ _ _ (by omega) (fun c _ => rfl) (Or.inl ⟨rfl, rfl, fun s' hs' => absurd hs' (by omega)⟩)⟩
    rw [e68] at hb
    obtain ⟨f1, f2⟩ := fin v4 v5 hb
    have iJ' : Inv D N T r J' L := inv_scr hD iJ (fun c hc => hJ' c (by omega))
    by_cases z : x2 = 0
    · exact am_ifp z ⟨(g1 z).trans f1.symm, iJ'⟩
    · exact am_ifn z ⟨(g2 z).trans f2.symm, iJ'⟩
  by_cases z : x2 = 0
  · refine am_ifp z ?_
    exact mdl _ (fun _ => q111 (by omega)) (fun q => absurd z q)
  · refine am_ifn z ?_
    exact mdl _ (fun q => absurd q z) (fun _ => rfl)
