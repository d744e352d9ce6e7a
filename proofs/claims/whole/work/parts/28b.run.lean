/-! orders: sums and tests are reckoned, by the reference -/
def DQ (l : List CLD) (s : Nat) (M : Nat → Nat × Nat) (mk : Nat → Nat → Nat) (G : am_I) : Prop := s ≤ 400 ∧ l.length ≤ 12 ∧ CDr false G M s ∧ TXr RWq false l s M mk G
theorem DQ_cg {l : List CLD} {s : Nat} {M : Nat → Nat × Nat} {mk : Nat → Nat → Nat} {I J : am_I} (h : DQ l s M mk I) (e7 : J 77 = I 77) (e8 : J 78 = I 78) (e9 : J 97 = I 97) : DQ l s M mk J := by
  obtain ⟨h1, h2, h3, h4⟩ := h
  refine ⟨h1, h2, fun k hk => by rw [e7, e8]; exact h3 k hk, fun c cl ec => ?_, h4.2⟩
  obtain ⟨a1, a2⟩ := h4.1 c cl ec
  refine ⟨?_, a2⟩
  unfold RWq
  rw [e9]
  exact a1
def WDr (e : Nat → Nat → Int) (m : Nat) (I : am_I) (L : am_J) : Prop := (∀ w, w = 7 ∨ (10 ≤ w ∧ w < 14) → -1000000000 ≤ e 1 w ∧ e 1 w ≤ 1000000000 ∧ (L 85 (rpo true 1 w)).toInt = e 1 w) ∧ (∀ p, p < 8 → e 2 p = (if m ≤ p then -1 else (I 68 (10 + p)).toInt) ∧ (p < m → ∃ x, x < 10 ∧ I 68 (10 + p) = nI x)) ∧ ∀ w, w < 96 → e 3 w = (if m ≤ w / 12 then -1 else (bi (Int32.toNatClampNeg (I 68 (18 + w / 12))) (w % 12) : Int)) ∧ (w / 12 < m → ∃ x, x < 4096 ∧ I 68 (18 + w / 12) = nI x)
theorem rwd_of {e : Nat → Nat → Int} {m k bs : Nat} {I : am_I} {L : am_J} {M : Nat → Nat × Nat} (h : WDr e m I L) (o : okM false k (M k)) (c : I 77 k = nI (rpo true (M k).1 (M k).2) ∧ I 78 k = nI (rpa (M k).1 (M k).2)) : RWd I L true bs M e m k := by
  obtain ⟨o1, o2, o3, o4, o5, o6⟩ := o
  refine ⟨o1, o2, (fun z => by cases z), fun _ => c, fun z => ?_, fun z => ?_, fun z => ?_, o6⟩
  · have w := (o3 z).2 rfl
    obtain ⟨a1, a2, a3⟩ := h.1 _ w
    exact ⟨a1, a2, (fun z => by cases z), fun _ => ⟨w, a3⟩⟩
  · have w := (o4 z).2
    obtain ⟨a1, a2⟩ := h.2.1 _ w
    exact ⟨w, a1, a2⟩
  · have w := (o5 z).2
    obtain ⟨a1, a2⟩ := h.2.2 _ w
    exact ⟨w, a1, a2⟩
/-- what reckoning changes -/
def frG (I J : am_I) (L M : am_J) : Prop := (∀ c, c ≠ 66 → J c = I c) ∧ (∀ k, k ≠ 20 → k ≠ 38 → k ≠ 57 → J 66 k = I 66 k) ∧ J 66 20 = 0 ∧ (∀ c, c ≠ 66 → c ≠ 86 → M c = L c) ∧ ∀ k, k ≠ 39 → M 66 k = L 66 k
theorem WDr_cg {e : Nat → Nat → Int} {m : Nat} {I J : am_I} {L M : am_J} (h : WDr e m I L) (e1 : J 68 = I 68) (e2 : M 85 = L 85) : WDr e m J M := by
  unfold WDr
  rw [e1, e2]
  exact h
/-- one that is there -/
theorem w296o {l : List CLD} {s p m a b : Nat} {M : Nat → Nat × Nat} {mk : Nat → Nat → Nat} {I : am_I} {L : am_J} {e : Nat → Nat → Int} {f : FN} {K : Int32 → am_I → am_J → Prop} {x0 : Int32} (ev : x0 = nI p) (hp : p < 119) (hm : m ≤ 8) (em : I 68 1 = nI m) (h : DQ l s M mk I) (w : WDr e m I L) (e57 : I 66 57 = 0) (ea : I 97 p = nI a) (eb : I 97 (p + 1) = nI b) (hb : b ≤ s) (pc : PC false M a b f 20) (k0 : f e = none → ∀ v J H, frG I J L H → J 66 57 = 1 → K v J H) (k1 : ∀ v, f e = some v → ∀ J H, frG I J L H → J 66 57 = 0 → K (Int32.ofInt v) J H) : w_296 x0 I L K := by
  have x1 : x0 + 1 = nI (p + 1) := by rw [ev]; exact (nI_succ p).symm
  obtain ⟨s4, l12, cd, t1, t2⟩ := h
  have ab := pc.1
  unfold w_296
  rw [e57]
  refine am_ifp rfl ⟨nb_gdx ev (by omega) (by decide), nb_gdx x1 (by omega) (by decide), ?_⟩
  rw [nb_cl ev (by omega), nb_cl x1 (by omega), ea, eb]
  refine am_ifn (fun z => by have := (nb_inj (a := a) (b := b) (by omega) (by omega)).mp z; omega) ⟨fun q => q.elim (fun z => by rw [ev] at z; exact nI_pos (by omega) z) (fun z => by omega), fun q => q.elim (fun z => by rw [x1] at z; exact nI_pos (by omega) z) (fun z => by omega), ?_⟩
  obtain ⟨R, r1, r2, r3⟩ := Den_s (M := 400) (pc.2.2 M (fun _ _ _ => rfl)) (by decide) e
  have W : WDr e m (am_u I 66 20 1) L := WDr_cg w (uu_h (by decide)) rfl
  have fg : ∀ J H, (∀ c, c ≠ 66 → J c = am_u I 66 20 1 c) → (∀ k, k ≠ 38 → J 66 k = am_u I 66 20 1 66 k) → (∀ c, c ≠ 66 → c ≠ 86 → H c = L c) → (∀ k, k ≠ 39 → H 66 k = L 66 k) → ∀ y, frG I (am_u (am_u J 66 20 0) 66 57 y) L H := by
    intro J H j1 j2 l1 l2 y
    refine ⟨fun c hc => ?_, fun k k1 k2 k3 => ?_, ?_, l1, l2⟩
    · rw [uu_h hc, uu_h hc, j1 c hc, uu_h hc]
    · rw [uu_n k3, uu_n k1, j2 k k2, uu_n k1]
    · rw [uu_n (by decide), uu_e]
  refine q239 (ord := true) (bs := 0) (m := m) (C := M) (e := e) (R := R) hm (by rw [uu_c (by decide)]; exact em) uu_e (fun z => by cases z) (Nat.le_of_lt ab) (by omega) (fun k hk => rwd_of W (t2 k (by omega)) (by rw [uu_c (by decide), uu_c (by decide)]; exact cd k (by omega))) r1 (fun z J H j1 j2 j3 l1 l2 => ?_) (fun v hv J H j1 j2 j3 l1 l2 l3 v1 v2 => ?_) (fun s' hs' => ?_)
  · refine ⟨Or.inr j3, k0 (r3 z) _ _ H (fg J H j1 j2 l1 l2 _) ?_⟩
    rw [uu_e]; exact j3
  · obtain ⟨v', q1, q2⟩ := r2 [v] hv
    injection q1 with q1 _
    refine ⟨Or.inl j3, ?_⟩
    rw [l2i l3 (by omega) (by omega)]
    refine k1 v (by rw [q1]; exact q2) _ H (fg J H j1 j2 l1 l2 _) ?_
    rw [uu_e]; exact j3
  · obtain ⟨v, q1, q2⟩ := r2 s' hs'
    exact ⟨v, q1⟩
/-- one that is not there -/
theorem w296n {p : Nat} {I : am_I} {L : am_J} {K : Int32 → am_I → am_J → Prop} {x0 : Int32} (ev : x0 = nI p) (hp : p < 119) (e57 : I 66 57 = 0) (ea : I 97 p = I 97 (p + 1)) (k : K (-1) I L) : w_296 x0 I L K := by
  have x1 : x0 + 1 = nI (p + 1) := by rw [ev]; exact (nI_succ p).symm
  unfold w_296
  rw [e57]
  refine am_ifp rfl ⟨nb_gdx ev (by omega) (by decide), nb_gdx x1 (by omega) (by decide), ?_⟩
  rw [nb_cl ev (by omega), nb_cl x1 (by omega)]
  exact am_ifp ea k
theorem w296b {I : am_I} {L : am_J} {K : Int32 → am_I → am_J → Prop} {x0 : Int32} (e57 : I 66 57 = 1) (k : K (-1) I L) : w_296 x0 I L K := by
  unfold w_296
  rw [e57]
  exact am_ifn (by decide) k
