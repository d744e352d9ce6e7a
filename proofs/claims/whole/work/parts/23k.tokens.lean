/-! tokens: the list of them, by both -/
def ATt (b : Nat → Nat) (z p : Nat) (l : List (Nat × Nat)) : Prop := ∃ f, z ≤ p + f ∧ l = tls b z f p
theorem tls_s {b : Nat → Nat} {z : Nat} : ∀ f p, p ≤ z → z ≤ p + f → (rnz (fun i => tS (b i)) z p = z ∧ tls b z f p = []) ∨ ∃ s, s = rnz (fun i => tS (b i)) z p ∧ s < z ∧ ∃ f', z ≤ bhd b z s + f' ∧ tls b z f p = (s, tkc b s (bhd b z s)) :: tls b z f' (bhd b z s)
  | 0, p, h1, h2 => by
    have e : p = z := by omega
    subst e
    exact Or.inl ⟨rnz_z _ _, rfl⟩
  | f + 1, p, h1, h2 => by
    have et : tls b z (f + 1) p = (if z ≤ p then [] else if b p = 32 then tls b z f (p + 1) else (p, tkc b p (bhd b z p)) :: tls b z f (bhd b z p)) := rfl
    by_cases c : z ≤ p
    · have e : p = z := by omega
      subst e
      rw [if_pos c] at et
      exact Or.inl ⟨rnz_z _ _, et⟩
    · rw [if_neg c] at et
      by_cases y : b p = 32
      · rw [if_pos y] at et
        rw [et, rnz_s (f := fun i => tS (b i)) (by omega) (decide_eq_true y)]
        exact tls_s f (p + 1) (by omega) (by omega)
      · rw [if_neg y] at et
        refine Or.inr ⟨p, (rnz_n (f := fun i => tS (b i)) (by omega) (decide_eq_false y)).symm, by omega, f, ?_, et⟩
        have := bhd_le b (show p < z by omega)
        omega
theorem ATt_nil {b : Nat → Nat} {z p : Nat} (h : ATt b z p []) (hp : p ≤ z) : rnz (fun i => tS (b i)) z p = z := by
  obtain ⟨f, f1, f2⟩ := h
  rcases tls_s (b := b) f p hp f1 with ⟨a, _⟩ | ⟨s, _, _, f', _, a⟩
  · exact a
  · rw [a] at f2
    exact absurd f2 (by simp)
theorem ATt_cons {b : Nat → Nat} {z p : Nat} {x : Nat × Nat} {t : List (Nat × Nat)} (h : ATt b z p (x :: t)) (hp : p ≤ z) : ∃ s, s = rnz (fun i => tS (b i)) z p ∧ s < z ∧ x = (s, tkc b s (bhd b z s)) ∧ ATt b z (bhd b z s) t := by
  obtain ⟨f, f1, f2⟩ := h
  rcases tls_s (b := b) f p hp f1 with ⟨_, a⟩ | ⟨s, s1, s2, f', f3, a⟩
  · rw [a] at f2
    exact absurd f2 (by simp)
  · rw [a] at f2
    injection f2 with g1 g2
    exact ⟨s, s1, s2, g1, f', f3, g2⟩
theorem tkc_lt {b : Nat → Nat} {z s : Nat} (hb : ∀ k, k < z → b k < 256) (hs : s < z) : tkc b s (bhd b z s) < 3000000 := by
  unfold tkc
  have b1' := hb s hs
  by_cases hl : tL (b s) = true
  · rw [if_pos hl]
    obtain ⟨w1, w2⟩ := bhd_w hs hl
    obtain ⟨t1, t2⟩ := bhd_le b hs
    have := (wof_v (b := b) (p := s) (l := bhd b z s - s) (fun i hi => of_decide_eq_true (w2 (s + i) (by omega) (by omega)))).1
    omega
  · rw [if_neg hl]
    by_cases hd : tD (b s) = true
    · rw [if_pos hd]
      have := nmc_le b s (bhd b z s - s)
      omega
    · rw [if_neg hd]
      omega
theorem ATt_lt {b : Nat → Nat} {z : Nat} (hb : ∀ k, k < z → b k < 256) : ∀ (l : List (Nat × Nat)) p, ATt b z p l → p ≤ z → ∀ k, k < l.length → (l.getD k (0, 0)).1 < z ∧ (l.getD k (0, 0)).2 < 3000000
  | [], _, _, _, k, hk => absurd hk (by simp)
  | x :: t, p, h, hp, k, hk => by
    obtain ⟨s, s1, s2, s3, s4⟩ := ATt_cons h hp
    cases k with
    | zero =>
      show x.1 < z ∧ x.2 < 3000000
      rw [s3]
      exact ⟨s2, tkc_lt hb s2⟩
    | succ k =>
      have hk : k + 1 < t.length + 1 := hk
      exact ATt_lt hb t _ s4 (bhd_le b s2).2 k (by omega)
def TS (b : Nat → Nat) (z : Nat) (R : List (Nat × Nat)) (C S : Nat → Nat) : Prop := z ≤ 400 ∧ R.length ≤ 400 ∧ (∀ k, k < z → b k < 256) ∧ ATt b z 0 R ∧ (∀ k, k < R.length → R.getD k (0, 0) = (S k, C k)) ∧ S R.length = z ∧ C R.length = 3000000
theorem TS_lt {b : Nat → Nat} {z : Nat} {R : List (Nat × Nat)} {C S : Nat → Nat} (h : TS b z R C S) : ∀ k, k < R.length → S k < z ∧ C k < 3000000 := by
  intro k hk
  have e := h.2.2.2.2.1 k hk
  have a := ATt_lt h.2.2.1 R 0 h.2.2.2.1 (Nat.zero_le _) k hk
  rw [e] at a
  exact a
theorem TS_le {b : Nat → Nat} {z : Nat} {R : List (Nat × Nat)} {C S : Nat → Nat} (h : TS b z R C S) : ∀ k, k ≤ R.length → S k ≤ 400 ∧ C k ≤ 3000000 := by
  intro k hk
  have z4 := h.1
  by_cases e : k = R.length
  · rw [e, h.2.2.2.2.2.1, h.2.2.2.2.2.2]
    exact ⟨z4, Nat.le_refl _⟩
  · have := TS_lt h k (by omega)
    omega
def RTk (b : Nat → Nat) (z : Nat) (R : List (Nat × Nat)) (C S : Nat → Nat) (i : Nat) (G : am_I) (H : am_J) : Prop := i ≤ R.length ∧ G 66 14 = nI (S i) ∧ G 66 16 = nI (kdT (C i)) ∧ TKV (C i) (H 66 17) ∧ ∃ p, p ≤ z ∧ G 66 15 = nI p ∧ ATt b z p (R.drop (i + 1))
theorem q207n {b : Nat → Nat} {z : Nat} {R : List (Nat × Nat)} {C S : Nat → Nat} {j p : Nat} {G : am_I} {H : am_J} {K : am_I → am_J → Prop} (hT : TS b z R C S) (hB : BYr G b z) (hj : j ≤ R.length) (hp : p ≤ z) (e15 : G 66 15 = nI p) (ha : ATt b z p (R.drop j)) (hK : ∀ G' H', frTk G G' H H' → RTk b z R C S j G' H' → K G' H') : w_207 G H K := by
  obtain ⟨t1, t2, t3, t4, t5, t6, t7⟩ := hT
  refine q207 hB hp e15 (fun hs G' H' hf g14 g15 g16 => ?_) (fun s hs sz G' H' hf g14 g15 g16 g17 _ => ?_)
  · have en : R.drop j = [] := by
      cases hd : R.drop j with
      | nil => rfl
      | cons x t =>
        rw [hd] at ha
        obtain ⟨s, s1, s2, _⟩ := ATt_cons ha hp
        omega
    have ej : j = R.length := by
      have := List.drop_eq_nil_iff.mp en
      omega
    refine hK G' H' hf ⟨hj, ?_, ?_, ?_, z, Nat.le_refl _, g15, 0, Nat.le_refl _, ?_⟩
    · rw [ej, t6]; exact g14
    · rw [ej, t7]; exact g16
    · rw [ej, t7]
      exact ⟨Nat.le_refl _, fun q => absurd q (by omega), fun _ q => absurd q (by omega), fun _ q => absurd q (by omega)⟩
    · rw [List.drop_eq_nil_iff.mpr (by omega)]
      rfl
  · cases hd : R.drop j with
    | nil =>
      rw [hd] at ha
      have := ATt_nil ha hp
      omega
    | cons x t =>
      rw [hd] at ha
      obtain ⟨s', s1, s2, s3, s4⟩ := ATt_cons ha hp
      have es : s' = s := by rw [s1, hs]
      subst es
      have jl : j < R.length := by
        by_cases c : j < R.length
        · exact c
        · rw [List.drop_eq_nil_iff.mpr (by omega)] at hd
          exact absurd hd (by simp)
      have e1 : R.getD j (0, 0) = x := by
        have := congrArg (fun l => l[0]?) hd
        rw [show (R.drop j)[0]? = R[j + 0]? from List.getElem?_drop] at this
        rw [List.getD_eq_getElem?_getD, show R[j]? = some x from this]
        rfl
      have e2 : R.drop (j + 1) = t := by
        have := congrArg List.tail hd
        rw [List.tail_drop] at this
        exact this
      rw [t5 j jl, s3] at e1
      injection e1 with x1 x2
      refine hK G' H' hf ⟨hj, by rw [x1]; exact g14, by rw [x2]; exact g16, by rw [x2]; exact g17, _, (bhd_le b s2).2, g15, ?_⟩
      rw [e2]
      exact s4
