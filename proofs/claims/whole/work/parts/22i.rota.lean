/-! rota: the reference's prices -/
def frZ (I J : am_I) (L M : am_J) : Prop := (∀ c, c ≠ 66 → c ≠ 88 → c ≠ 91 → J c = I c) ∧ (∀ k, k ≠ 34 → k ≠ 38 → J 66 k = I 66 k) ∧ (∀ c, c ≠ 66 → c ≠ 84 → c ≠ 86 → M c = L c) ∧ ∀ k, k ≠ 39 → k ≠ 40 → M 66 k = L 66 k
theorem frZ_0 (I : am_I) (L : am_J) : frZ I I L L := ⟨fun _ _ _ _ => rfl, fun _ _ _ => rfl, fun _ _ _ _ => rfl, fun _ _ _ => rfl⟩
theorem frZ_t {I J H : am_I} {L M N : am_J} (h : frZ I J L M) (g : frZ J H M N) : frZ I H L N := ⟨fun c a b d => (g.1 c a b d).trans (h.1 c a b d), fun k k1 k2 => (g.2.1 k k1 k2).trans (h.2.1 k k1 k2), fun c c1 c2 c3 => (g.2.2.1 c c1 c2 c3).trans (h.2.2.1 c c1 c2 c3), fun k k1 k2 => (g.2.2.2 k k1 k2).trans (h.2.2.2 k k1 k2)⟩
theorem frZ_L {I J : am_I} {L M : am_J} (h : frL I J L M) : frZ I J L M := ⟨fun c a _ _ => h.1 c a, h.2.1, h.2.2.1, h.2.2.2⟩
theorem PWd_Z {I J : am_I} {L M : am_J} {m p : Nat} (h : PWd I m p) (f : frZ I J L M) : PWd J m p := PWd_cg h (f.1 1 (by decide) (by decide) (by decide)) (f.1 4 (by decide) (by decide) (by decide)) (f.1 5 (by decide) (by decide) (by decide)) (f.1 7 (by decide) (by decide) (by decide)) (f.1 12 (by decide) (by decide) (by decide)) (f.1 68 (by decide) (by decide) (by decide)) (f.2.1 20 (by decide) (by decide))
def RTs (J : am_I) (P : PRI) (m s : Nat) : Prop := ∀ p w b, p < m → w < 6 → b < 2 → 12 * p + 2 * w + b < s → J 88 (12 * p + 2 * w + b) = pI (P p w b)
theorem RTs_u {J : am_I} {P : PRI} {m p w b : Nat} {v : Int32} (h : RTs J P m (12 * p + 2 * w + b)) (hw : w < 6) (hb : b < 2) (e : v = pI (P p w b)) : RTs (am_u J 88 (12 * p + 2 * w + b) v) P m (12 * p + 2 * w + (b + 1)) := by
  intro p' w' b' k1 k2 k3 k4
  by_cases z : 12 * p' + 2 * w' + b' = 12 * p + 2 * w + b
  · have z3 : b' = b := by omega
    have z1 : p' = p := by omega
    have z2 : w' = w := by omega
    subst z1 z2 z3
    rw [uu_e, e]
  · rw [uu_n z]
    exact h p' w' b' k1 k2 k3 (by omega)
theorem l273c {m p w : Nat} {I : am_I} {L : am_J} {fx : Option LWX} {E : Int32 → am_I → am_J → Prop} (hm : m ≤ 8) (h : PWd I m p) (hL : LOr (I 68) (I 68 4) fx) (hp : p < m) (hw : w < 6) (hE : ∀ u J M, frZ I J L M → J 91 = I 91 → RTs J (prc I fx) m (12 * p + 2 * (w + 1)) → E u J M) : ∀ k b J M, b + k = 2 → frZ I J L M → J 91 = I 91 → RTs J (prc I fx) m (12 * p + 2 * w + b) → lw_273_29 (k + 1) (nI p) (nI w) (nI b) J M E
  | 0, b, J, M, hb, f, f9, g => by
    have e : b = 2 := by omega
    subst e
    unfold lw_273_29
    rw [if_pos (by decide)]
    exact hE _ J M f f9 g
  | k + 1, b, J, M, hb, f, f9, g => by
    have ih := fun G N => l273c hm h hL hp hw hE k (b + 1) G N (by omega)
    rw [nI_succ] at ih
    unfold lw_273_29
    rw [if_neg (show ¬ (2 : Int32) ≤ nI b from nI_ge (b := 2) (by omega) (by decide))]
    have es : (12 * nI p + 2 * nI w) + nI b = nI (12 * p + 2 * w + b) := by rw [show (2 : Int32) = nI 2 from rfl, show (12 : Int32) = nI 12 from rfl, nb_mul, nb_mul, nb_add, nb_add]
    have gs : ¬ ((12 * nI p + 2 * nI w) + nI b < 0 ∨ 96 ≤ Int32.toNatClampNeg ((12 * nI p + 2 * nI w) + nI b)) := nb_gdx es (by omega) (by decide)
    have cs := nb_cl es (by omega)
    have e68 : J 68 = I 68 := f.1 68 (by decide) (by decide) (by decide)
    have e5 : J 5 = I 5 := f.1 5 (by decide) (by decide) (by decide)
    refine r242 (fx := fx) (PWd_Z h f) (by rw [e68]; exact hL) (smI_n (by omega : w ≤ 100)) (smI_n (by omega : b ≤ 100)) (fun G N hG => ?_)
    rw [e68]
    have fG : frZ I G L N := frZ_t f (frZ_L hG)
    have f9G : G 91 = I 91 := (hG.1 91 (by decide)).trans f9
    have gG : RTs G (prc I fx) m (12 * p + 2 * w + b) := fun p' w' b' a1 a2 a3 a4 => by rw [hG.1 88 (by decide)]; exact g p' w' b' a1 a2 a3 a4
    cases hi : isb (TL fx 3 (wdp (I 68) p w b (-1))) with
    | true =>
      refine am_ifn (show ¬ b1 true = 0 by decide) ⟨gs, ?_⟩
      rw [cs]
      refine ih _ _ ⟨fun c a1 a2 a3 => ?_, fun k k1 k2 => ?_, fG.2.2.1, fG.2.2.2⟩ (by rw [uu_h (by decide)]; exact f9G) (RTs_u gG hw (by omega) (prc_1 h hi).symm)
      · rw [uu_h a2]; exact fG.1 c a1 a2 a3
      · rw [uu_c (by decide)]; exact fG.2.1 k k1 k2
    | false =>
      refine am_ifp (show b1 false = 0 from rfl) ?_
      have e68G : G 68 = I 68 := fG.1 68 (by decide) (by decide) (by decide)
      have e5G : G 5 = I 5 := fG.1 5 (by decide) (by decide) (by decide)
      refine r234 (fx := fx) (PWd_Z h fG) (by rw [e68G]; exact hL) (smI_n (by omega : w ≤ 100)) (smI_n (by omega : b ≤ 100)) (fun F O hF => ⟨gs, ?_⟩)
      rw [cs, e68G, e5G]
      have fF : frZ I F L O := frZ_t fG (frZ_L hF)
      have gF : RTs F (prc I fx) m (12 * p + 2 * w + b) := fun p' w' b' a1 a2 a3 a4 => by rw [hF.1 88 (by decide)]; exact gG p' w' b' a1 a2 a3 a4
      refine ih _ _ ⟨fun c a1 a2 a3 => ?_, fun k k1 k2 => ?_, fF.2.2.1, fF.2.2.2⟩ (by rw [uu_h (by decide)]; exact (hF.1 91 (by decide)).trans f9G) (RTs_u gF hw (by omega) (prc_0 h hi).symm)
      · rw [uu_h a2]; exact fF.1 c a1 a2 a3
      · rw [uu_c (by decide)]; exact fF.2.1 k k1 k2
theorem l273b {m p : Nat} {I : am_I} {L : am_J} {fx : Option LWX} {E : Int32 → am_I → am_J → Prop} (hm : m ≤ 8) (h : PWd I m p) (hL : LOr (I 68) (I 68 4) fx) (hp : p < m) (hE : ∀ u J M, frZ I J L M → J 91 = I 91 → RTs J (prc I fx) m (12 * (p + 1)) → E u J M) : ∀ k w J M, w + k = 6 → frZ I J L M → J 91 = I 91 → RTs J (prc I fx) m (12 * p + 2 * w) → lw_273_21 (k + 1) (nI p) (nI w) J M E
  | 0, w, J, M, hb, f, f9, g => by
    have e : w = 6 := by omega
    subst e
    unfold lw_273_21
    rw [if_pos (by decide)]
    exact hE _ J M f f9 g
  | k + 1, w, J, M, hb, f, f9, g => by
    have ih := fun G N => l273b hm h hL hp hE k (w + 1) G N (by omega)
    rw [nI_succ] at ih
    unfold lw_273_21
    rw [if_neg (show ¬ (6 : Int32) ≤ nI w from nI_ge (b := 6) (by omega) (by decide))]
    exact ⟨3, l273c hm h hL hp (by omega) (fun _ G N hG g9 gG => ih G N hG g9 gG) 2 0 J M (by omega) f f9 g⟩
theorem RTs_cg {I J : am_I} {m s : Nat} {P : PRI} (h : RTs I P m s) (e : J 88 = I 88) : RTs J P m s := fun p w b a1 a2 a3 a4 => by rw [e]; exact h p w b a1 a2 a3 a4
theorem l273a {m : Nat} {I : am_I} {L : am_J} {fx : Option LWX} {E : Int32 → am_I → am_J → Prop} (hm : m ≤ 8) (em : I 68 1 = nI m) (h : ∀ p, p < m → PWd I m p) (hL : LOr (I 68) (I 68 4) fx) (hE : ∀ u J M, frZ I J L M → (∀ p, p < m → J 91 p = 0) → RTs J (prc I fx) m (12 * m) → E u J M) : ∀ k p J M, p + k = m → frZ I J L M → (∀ p', p' < p → J 91 p' = 0) → RTs J (prc I fx) m (12 * p) → lw_273_2 (k + 1) (nI p) J M E
  | 0, p, J, M, hb, f, f9, g => by
    have e : p = m := by omega
    subst e
    unfold lw_273_2
    rw [f.1 68 (by decide) (by decide) (by decide), em, if_pos (nI_le (Nat.le_refl _) (by omega))]
    exact hE _ J M f f9 g
  | k + 1, p, J, M, hb, f, f9, g => by
    have ih := fun G N => l273a hm em h hL hE k (p + 1) G N (by omega)
    rw [nI_succ] at ih
    unfold lw_273_2
    rw [f.1 68 (by decide) (by decide) (by decide), em, if_neg (nI_ge (by omega) (by omega))]
    refine ⟨nb_gd (by omega) (by decide), 7, ?_⟩
    rw [nI_clamp (by omega : p < 2 ^ 31)]
    have f2 : frZ I (am_u J 91 p 0) L M := ⟨fun c a1 a2 a3 => by rw [uu_h a3]; exact f.1 c a1 a2 a3, fun k k1 k2 => by rw [uu_c (by decide)]; exact f.2.1 k k1 k2, f.2.2.1, f.2.2.2⟩
    have e68 : am_u J 91 p 0 68 = I 68 := f2.1 68 (by decide) (by decide) (by decide)
    have ep : prc (am_u J 91 p 0) fx = prc I fx := prc_cg fx (f2.1 4 (by decide) (by decide) (by decide)) (f2.1 5 (by decide) (by decide) (by decide)) (f2.1 7 (by decide) (by decide) (by decide)) (f2.1 12 (by decide) (by decide) (by decide))
    refine l273b (I := am_u J 91 p 0) (L := M) (fx := fx) hm (PWd_Z (h p (by omega)) f2) (by rw [e68]; exact hL) (by omega) (fun _ G N hG g9 gG => ?_) 6 0 _ _ (by omega) (frZ_0 _ _) rfl ?_
    · rw [ep] at gG
      refine ih G N (frZ_t f2 hG) (fun p' hp' => ?_) gG
      rw [g9]
      by_cases z : p' = p
      · subst z; rw [uu_e]
      · rw [uu_n z]; exact f9 p' (by omega)
    · rw [ep]
      exact RTs_cg g (by rw [uu_h (by decide)])
theorem q273 {m : Nat} {I : am_I} {L : am_J} {fx : Option LWX} {K : am_I → am_J → Prop} (hm : m ≤ 8) (em : I 68 1 = nI m) (h : ∀ p, p < m → PWd I m p) (hL : LOr (I 68) (I 68 4) fx) (hK : ∀ J M, frZ I J L M → (∀ p, p < m → J 91 p = 0) → RTs J (prc I fx) m (12 * m) → K J M) : w_273 I L K := by
  unfold w_273
  exact ⟨m + 1, l273a (E := fun _ J M => K J M) hm em h hL (fun _ J M f f9 g => hK J M f f9 g) m 0 I L (by omega) (frZ_0 I L) (fun p hp => absurd hp (by omega)) (fun p w b _ _ _ a4 => absurd a4 (by omega))⟩
