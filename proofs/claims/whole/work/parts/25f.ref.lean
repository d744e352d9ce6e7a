/-! the reference reads a law's clause -/
def RWl : RWT := fun G c cl m => cl.1 ≤ 3 ∧ G 76 (8 * c) = nI cl.1 ∧ G 76 (8 * c + 3) = nI (m 0) ∧ G 76 (8 * c + 4) = nI (m 1) ∧ G 76 (8 * c + 5) = nI (m 3) ∧ G 76 (8 * c + 6) = nI (m 4)
theorem RWl_o : RWo RWl := by
  intro G G' c cl m e1 e2 h
  unfold RWl
  rw [e1]
  exact h
theorem l75 {G0 : am_I} {H : am_J} {c : Nat} {v1 : Int32} {E : Int32 → am_I → Prop} (hc : c < 12) (hE : ∀ v G', (∀ a, a ≠ 76 → G' a = G0 a) → (∀ k, k < 8 * c → G' 76 k = G0 76 k) → E v G') : ∀ m j G, j + m = 8 → (∀ a, a ≠ 76 → G a = G0 a) → (∀ k, k < 8 * c → G 76 k = G0 76 k) → lw_210_75 (m + 1) v1 (nI (8 * c)) (nI j) G H E
  | 0, j, G, hj, h1, h2 => by
    unfold lw_210_75
    rw [if_pos (show (8 : Int32) ≤ nI j from nI_le (a := 8) (by omega) (by omega))]
    exact hE _ G h1 h2
  | m + 1, j, G, hj, h1, h2 => by
    unfold lw_210_75
    rw [if_neg (show ¬ (8 : Int32) ≤ nI j from nI_ge (b := 8) (by omega) (by decide)), nb_add]
    refine ⟨nb_gd (by omega) (by decide), ?_⟩
    rw [nI_clamp (by omega), ← nI_succ]
    refine l75 hc hE m (j + 1) _ (by omega) (fun a ha => ?_) (fun k hk => ?_)
    · rw [uu_h ha]; exact h1 a ha
    · rw [uu_n (by omega)]; exact h2 k hk
/-- in the midst of a law's clause -/
def RO (x : TX) (B : am_I) (LB : am_J) (l : List CLD) (mk : Nat → Nat → Nat) (kd m0 : Nat) (fs : List FN) (i q s : Nat) (M : Nat → Nat × Nat) (G : am_I) (H : am_J) : Prop := XOK (rb x G H) ∧ RP (rb x G H) i q s M G H ∧ frSx B G LB H ∧ l.length < 12 ∧ G 66 21 = nI (l.length + 1) ∧ TXr RWl (xw x) l s M mk G ∧ kd ≤ 3 ∧ G 76 (8 * l.length) = nI kd ∧ G 76 (8 * l.length + 3) = nI m0 ∧ m0 ≤ s ∧ ((fs = [] ∧ m0 = s) ∨ ∃ f, fs = [f] ∧ PC (xw x) M m0 s f 20)
def mkn (mk : Nat → Nat → Nat) (c m0 s s' : Nat) : Nat → Nat → Nat := fun c' j => if c' = c then (if j = 0 then m0 else if j = 4 then s' else s) else mk c' j
theorem RO_end {x : TX} {B : am_I} {LB : am_J} {l : List CLD} {mk : Nat → Nat → Nat} {kd m0 : Nat} {fs : List FN} {s s' i q : Nat} {M : Nat → Nat × Nat} {G : am_I} {H : am_J} {t : Option FN} (hx : XOK (rb x G H)) (hp : RP (rb x G H) i q s' M G H) (hf : frSx B G LB H) (hl : l.length < 12) (h21 : G 66 21 = nI (l.length + 1)) (ht : TXr RWl (xw x) l s M mk G) (hk : kd ≤ 3) (e0 : G 76 (8 * l.length) = nI kd) (e3 : G 76 (8 * l.length + 3) = nI m0) (e4 : G 76 (8 * l.length + 4) = nI s) (e5 : G 76 (8 * l.length + 5) = nI s) (e6 : G 76 (8 * l.length + 6) = nI s') (h0 : m0 ≤ s) (hs : s ≤ s') (p : (fs = [] ∧ m0 = s) ∨ ∃ f, fs = [f] ∧ PC (xw x) M m0 s f 20) (pt : (t = none ∧ s' = s) ∨ ∃ f, t = some f ∧ PC (xw x) M s s' f 20) : RS x RWl B LB (l ++ [(kd, 1, fs, t)]) (mkn mk l.length m0 s s') i q s' M G H := by
  refine ⟨hx, hp, hf, by rw [ln1]; omega, by rw [ln1]; exact h21, fun c cl e => ?_, fun k hk => ?_⟩
  rotate_left
  · by_cases z : k < s
    · exact ht.2 k z
    · rcases pt with ⟨p1, p2⟩ | ⟨f', p1, p2⟩
      · omega
      · exact p2.2.1 k (by omega) hk
  rcases gix e with ⟨a, b⟩ | ⟨a, b⟩
  · obtain ⟨a1, a2, a3⟩ := ht.1 c cl b
    have em : mkn mk l.length m0 s s' c = mk c := by
      funext j
      show (if c = l.length then _ else mk c j) = mk c j
      rw [if_neg (by omega)]
    rw [em]
    exact ⟨a1, fun i hi => Nat.le_trans (a2 i hi) hs, a3⟩
  · have em : mkn mk l.length m0 s s' c = fun j => if j = 0 then m0 else if j = 4 then s' else s := by
      funext j
      show (if c = l.length then _ else mk c j) = _
      rw [if_pos a]
    rw [em, a, b]
    refine ⟨⟨hk, e0, e3, e4, e5, e6⟩, fun i hi => ?_, ?_, fun i f hi => ?_, fun i i1 i2 => ?_, fun hn => ?_, fun f hf => ?_⟩
    · show (if i = 0 then m0 else if i = 4 then s' else s) ≤ s'
      split
      · omega
      · split <;> omega
    · show fs.length ≤ 3
      rcases p with ⟨p1, p2⟩ | ⟨f, p1, p2⟩
      · rw [p1]; exact Nat.zero_le _
      · rw [p1]; show 1 ≤ 3; decide
    · have hi : fs[i]? = some f := hi
      have il := gixl hi
      rcases p with ⟨p1, p2⟩ | ⟨f', p1, p2⟩
      · rw [p1] at il
        exact absurd il (Nat.not_lt_zero _)
      · rw [p1] at il
        have i0 : i = 0 := by
          have il : i < 1 := il
          omega
        rw [p1, i0] at hi
        have hi : some f' = some f := hi
        injection hi with hi
        rw [i0, ← hi]
        exact p2
    · have i1 : fs.length ≤ i := i1
      show (if i + 1 = 0 then m0 else if i + 1 = 4 then s' else s) = (if i = 0 then m0 else if i = 4 then s' else s)
      rw [if_neg (by omega), if_neg (by omega)]
      by_cases c0 : i = 0
      · rw [if_pos c0]
        rcases p with ⟨p1, p2⟩ | ⟨f', p1, p2⟩
        · exact p2.symm
        · rw [p1] at i1
          have i1 : 1 ≤ i := i1
          omega
      · rw [if_neg c0, if_neg (by omega)]
    · have hn : t = none := hn
      show (if 4 = 0 then m0 else if 4 = 4 then s' else s) = (if 3 = 0 then m0 else if 3 = 4 then s' else s)
      rcases pt with ⟨p1, p2⟩ | ⟨f', p1, p2⟩
      · rw [p2]; rfl
      · rw [hn] at p1; cases p1
    · have hf : t = some f := hf
      rcases pt with ⟨p1, p2⟩ | ⟨f', p1, p2⟩
      · rw [hf] at p1; cases p1
      · rw [hf] at p1
        injection p1 with p1
        rw [p1]
        exact p2
