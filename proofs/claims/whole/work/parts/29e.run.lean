/-! orders: the times of one clause, the clauses -/
theorem q84 {T : Nat → Nat × Nat} {r : Nat → Nat → Option Nat} {I : am_I} {t c3 nc c kd : Nat} {K : Int32 → Prop} (h1 : (am_ts T t).1 = 11) (h2 : am_rs r t 4 = some c3) (h3 : (am_ts T c3).1 = 20) (h4 : nc ≤ (am_ts T c3).2) (h5 : I t 2 = nI nc) (hn : nc ≤ 12) (hc : c < nc) (h6 : I c3 c = nI kd) (hK : K (nI kd)) : w_84 t (nI c) T r I K := by
  unfold w_84
  refine ⟨h1, ?_⟩
  rw [h5]
  rcases qlz (nI c) nc (by omega) with ⟨_, g⟩ | ⟨a, _⟩
  · exact absurd rfl (g c hc)
  · rw [if_neg (by rw [a]; decide)]
    refine ⟨h1, c3, h2, h3, ?_, ?_⟩
    · rw [nI_clamp (by omega)]
      rintro (g | g)
      · exact nI_pos (by omega) g
      · omega
    · rw [nI_clamp (by omega), h6]
      exact hK
/-- k times of clause c, from the j-th on -/
def TMC (k j : Nat) (V V' : am_I) (u u' dn dn' : Nat) (fd fd' : Int32) (good : Prop) (c : Nat) (cl : CLD) : Prop := ∀ (T : Nat → Nat × Nat) (r : Nat → Nat → Option Nat) (l : List CLD) (s : Nat) (M : Nat → Nat × Nat) (mk : Nat → Nat → Nat) (I : am_I) (E R : Int32 → am_I → Prop), CNv I V u → I 35 0 = nI dn → I 35 2 = fd → DC l s M mk I → l[c]? = some cl → (good → ∀ y J, CNv J V' u' → J 35 0 = nI dn' → J 35 2 = fd' → frU I J → E y J) → (¬ good → ∀ J, frU I J → R 0 J) → lw_82_11 (k + 1) (nI c) (nI cl.1) (nI j) T r I E R
def TMR (k j : Nat) (V V' : am_I) (u u' dn dn' : Nat) (fd fd' : Int32) (good : Prop) (c : Nat) (cl : CLD) : Prop := ∀ (l : List CLD) (s : Nat) (M : Nat → Nat × Nat) (mk : Nat → Nat → Nat) (G : am_I) (H : am_J) (x : Int32) (E R : Int32 → am_I → am_J → Prop), RNv G V u → G 66 54 = nI dn → G 66 55 = fd → DQ l s M mk G → l[c]? = some cl → (good → ∀ y F H', RNv F V' u' → F 66 54 = nI dn' → F 66 55 = fd' → fqW G F H H' → E y F H') → (¬ good → ∀ F H', fqW G F H H' → w_297 x F (fun I15 => w_179 (-3) (am_u I15 66 56 (nI c)) (fun q16 I17 => R q16 I17 H'))) → lw_291_150 (k + 1) x (nI c) (nI j) G H E R
theorem tmc_n {k j c : Nat} {cl : CLD} {T : Nat → Nat × Nat} {r : Nat → Nat → Option Nat} {l : List CLD} {s : Nat} {M : Nat → Nat × Nat} {mk : Nat → Nat → Nat} {I : am_I} {E R : Int32 → am_I → Prop} (dc : DC l s M mk I) (hc : l[c]? = some cl) (he : cl.2.1 ≤ j → E (nI j) I) (hj : j < 2 ^ 30) (hs : j < cl.2.1 → w_85 T r I (fun I3 => w_87 16 (nI c) 3 T r I3 (fun q4 I5 => if q4 = 0 then lw_82_11 k (nI c) (nI cl.1) (nI (j + 1)) T r I5 E R else if I5 24 1 = 1 then w_92 (nI c) T r I5 (fun q6 I7 => if q6 = 0 then R 0 I7 else w_93 (nI cl.1) T r I7 (fun q8 I9 => if q8 = 0 then R 0 I9 else lw_82_11 k (nI c) (nI cl.1) (nI (j + 1)) T r (am_u I9 35 0 ((I9 35 0) + 1)) E R)) else lw_82_11 k (nI c) (nI cl.1) (nI (j + 1)) T r I5 E R))) : lw_82_11 (k + 1) (nI c) (nI cl.1) (nI j) T r I E R := by
  have tx := dc.2.2.2
  obtain ⟨a1, a2, a3, a4, a5, a6, a7⟩ := tx.2.2.1 c cl hc
  unfold lw_82_11
  refine q84 (nc := l.length) (c3 := 19) (kd := cl.2.1) rfl rfl rfl (by show l.length ≤ 12; exact tx.1) tx.2.1 tx.1 (gixl hc) a5 ?_
  rw [← nI_succ]
  by_cases z : cl.2.1 ≤ j
  · exact am_ifp ((nb_le (by omega) (by omega)).mpr z) (he z)
  · exact am_ifn (fun y => z ((nb_le (by omega) (by omega)).mp y)) (hs (by omega))
theorem tmr_n {k j c : Nat} {cl : CLD} {l : List CLD} {s : Nat} {M : Nat → Nat × Nat} {mk : Nat → Nat → Nat} {G : am_I} {H : am_J} {x : Int32} {E R : Int32 → am_I → am_J → Prop} (dq : DQ l s M mk G) (hc : l[c]? = some cl) (hj : j < 2 ^ 30) (he : cl.2.1 ≤ j → E (nI j) G H) (hs : j < cl.2.1 → w_295 (nI (10 * c)) G H (fun q12 I13 L14 => if (0 : Int32) ≤ q12 then lw_291_150 k x (nI c) (nI (j + 1)) I13 L14 E R else w_297 x I13 (fun I15 => w_179 (-3) (am_u I15 66 56 (nI c)) (fun q16 I17 => R q16 I17 L14)))) : lw_291_150 (k + 1) x (nI c) (nI j) G H E R := by
  have cc := gixl hc
  have l12 := dq.2.1
  obtain ⟨⟨r1, r2, r3, r4, r5, r6, r7, r8⟩, b5, pz'⟩ := dq.2.2.2.1 c cl hc
  have x0 : (10 : Int32) * nI c = nI (10 * c) := nb_mul 10 c
  have x9 : nI (10 * c) + 9 = nI (10 * c + 9) := by rw [show (9 : Int32) = nI 9 from rfl, nb_add]
  unfold lw_291_150
  rw [x0]
  refine ⟨nb_gdx x9 (by omega) (by decide), ?_⟩
  rw [nb_cl x9 (by omega), r5, ← nI_succ]
  by_cases z : cl.2.1 ≤ j
  · exact am_ifp ((nb_le (by omega) (by omega)).mpr z) (he z)
  · exact am_ifn (fun y => z ((nb_le (by omega) (by omega)).mp y)) (hs (by omega))
theorem tms {c : Nat} {cl : CLD} (ok : okO cl) (t20 : cl.2.1 ≤ 20) : ∀ (k j : Nat) (V : am_I) (u dn : Nat) (fd : Int32), j + k = cl.2.1 → IV V → V 29 0 = nI u → u ≤ 16 → dn + k ≤ 240 → FDk fd → ∃ (V' : am_I) (u' dn' : Nat) (fd' : Int32) (good : Prop), u' ≤ 16 ∧ IV V' ∧ V' 29 0 = nI u' ∧ VF V V' ∧ dn' ≤ dn + k ∧ (good → FDk fd') ∧ TMC k j V V' u u' dn dn' fd fd' good c cl ∧ TMR k j V V' u u' dn dn' fd fd' good c cl
  | 0, j, V, u, dn, fd, hj, h, hu, hu6, hd, hf => by
    refine ⟨V, u, dn, fd, True, hu6, h, hu, VF_r, Nat.le_refl _, fun _ => hf, ?_, ?_⟩
    · intro T r l s M mk I E R cn e0 e2 dc hc kG kB
      exact tmc_n dc hc (fun _ => kG trivial _ I cn e0 e2 frU_r) (by omega) (fun z => by omega)
    · intro l s M mk G H x E R rn e54 e55 dq hc kG kB
      exact tmr_n dq hc (by omega) (fun _ => kG trivial _ G H rn e54 e55 fqW_r) (fun z => by omega)
  | k + 1, j, V, u, dn, fd, hj, h, hu, hu6, hd, hf => by
    obtain ⟨V1, u1, dn1, fd1, g1, a1, a2, a3, a4, a5, a6, oc, orr⟩ := one (dn := dn) (c := c) h hu hu6 (by omega) hf ok
    by_cases g : g1
    · obtain ⟨V2, u2, dn2, fd2, g2, b1', b2, b3, b4, b5, b6, tc, tr⟩ := tms (c := c) ok t20 k (j + 1) V1 u1 dn1 fd1 (by omega) a2 a3 a1 (by omega) (a6 g)
      refine ⟨V2, u2, dn2, fd2, g2, b1', b2, b3, VF_t a4 b4, by omega, b6, ?_, ?_⟩
      · intro T r l s M mk I E R cn e0 e2 dc hc kG kB
        refine tmc_n dc hc (fun z => by omega) (by omega) (fun _ => ?_)
        exact oc T r l s M mk I (fun J => lw_82_11 (k + 1) (nI c) (nI cl.1) (nI (j + 1)) T r J E R) (R 0) cn e0 e2 dc hc (fun _ J c1 x0 x2 f1 => tc T r l s M mk J E R c1 x0 x2 (DC_o dc f1) hc (fun gg y J2 c2 y0 y2 f2 => kG gg y J2 c2 y0 y2 (frU_t f1 f2)) (fun gg J2 f2 => kB gg J2 (frU_t f1 f2))) (fun z => absurd g z)
      · intro l s M mk G H x E R rn e54 e55 dq hc kG kB
        refine tmr_n dq hc (by omega) (fun z => by omega) (fun _ => ?_)
        exact orr l s M mk G H _ rn e54 e55 dq hc (fun _ F H' c1 x0 x2 f1 => am_ifp (by decide) (tr l s M mk F H' x E R c1 x0 x2 (DQ_o dq f1) hc (fun gg y F2 H2 c2 y0 y2 f2 => kG gg y F2 H2 c2 y0 y2 (fqW_t f1 f2)) (fun gg F2 H2 f2 => kB gg F2 H2 (fqW_t f1 f2)))) (fun z => absurd g z)
    · refine ⟨V, u, dn, fd, False, hu6, h, hu, VF_r, by omega, fun z => z.elim, ?_, ?_⟩
      · intro T r l s M mk I E R cn e0 e2 dc hc kG kB
        refine tmc_n dc hc (fun z => by omega) (by omega) (fun _ => ?_)
        exact oc T r l s M mk I (fun J => lw_82_11 (k + 1) (nI c) (nI cl.1) (nI (j + 1)) T r J E R) (R 0) cn e0 e2 dc hc (fun z => absurd z g) (fun _ J f1 => kB (fun z => z) J f1)
      · intro l s M mk G H x E R rn e54 e55 dq hc kG kB
        refine tmr_n dq hc (by omega) (fun z => by omega) (fun _ => ?_)
        exact orr l s M mk G H _ rn e54 e55 dq hc (fun z => absurd z g) (fun _ F H' f1 => am_ifn (by decide) (kB (fun z => z) F H' f1))
/-- k clauses, from c on; b the one that can't be run -/
def CLC (k c : Nat) (l : List CLD) (V V' : am_I) (u u' dn dn' : Nat) (fd fd' : Int32) (good : Prop) (b : Nat) : Prop := ∀ (N : Nat) (T : Nat → Nat × Nat) (r : Nat → Nat → Option Nat) (s : Nat) (M : Nat → Nat × Nat) (mk : Nat → Nat → Nat) (I : am_I) (E R : Int32 → Nat → (Nat → Nat × Nat) → (Nat → Nat → Option Nat) → am_I → Prop), CNv I V u → I 35 0 = nI dn → I 35 2 = fd → DC l s M mk I → (good → ∀ y J, CNv J V' u' → J 35 0 = nI dn' → J 35 2 = fd' → frU I J → E y N T r J) → (¬ good → ∀ J, frU I J → w_80 1 36 N T r J (fun N6 T6 r6 I7 => w_81 29 48 T6 r6 I7 (fun I8 => R 0 N6 T6 r6 (am_u I8 35 1 (nI b))))) → lw_79_29 (k + 1) (nI c) N T r I E R
def CLR (k c : Nat) (l : List CLD) (V V' : am_I) (u u' dn dn' : Nat) (fd fd' : Int32) (good : Prop) (b : Nat) : Prop := ∀ (s : Nat) (M : Nat → Nat × Nat) (mk : Nat → Nat → Nat) (G : am_I) (H : am_J) (x : Int32) (E R : Int32 → am_I → am_J → Prop), RNv G V u → G 66 54 = nI dn → G 66 55 = fd → DQ l s M mk G → G 66 21 = nI l.length → (good → ∀ y F H', RNv F V' u' → F 66 54 = nI dn' → F 66 55 = fd' → fqW G F H H' → E y F H') → (¬ good → ∀ F H', fqW G F H H' → w_297 x F (fun I15 => w_179 (-3) (am_u I15 66 56 (nI b)) (fun q16 I17 => R q16 I17 H'))) → lw_291_140 (k + 1) x (nI c) G H E R
/-- what a clause's times end in -/
def KC (k c N : Nat) (T : Nat → Nat × Nat) (r : Nat → Nat → Option Nat) (E R : Int32 → Nat → (Nat → Nat × Nat) → (Nat → Nat → Option Nat) → am_I → Prop) : Int32 → am_I → Prop := fun q4 I5 => if q4 = 0 then w_80 1 36 N T r I5 (fun N6 T6 r6 I7 => w_81 29 48 T6 r6 I7 (fun I8 => R 0 N6 T6 r6 (am_u I8 35 1 (nI c)))) else lw_79_29 k (nI (c + 1)) N T r I5 E R
theorem clc_n {k c : Nat} {cl : CLD} {N : Nat} {T : Nat → Nat × Nat} {r : Nat → Nat → Option Nat} {l : List CLD} {s : Nat} {M : Nat → Nat × Nat} {mk : Nat → Nat → Nat} {I : am_I} {E R : Int32 → Nat → (Nat → Nat × Nat) → (Nat → Nat → Option Nat) → am_I → Prop} (dc : DC l s M mk I) (hc : l[c]? = some cl) (hs : ∃ n, lw_82_11 n (nI c) (nI cl.1) (nI 0) T r I (fun _ I5 => KC k c N T r E R 1 I5) (KC k c N T r E R)) : lw_79_29 (k + 1) (nI c) N T r I E R := by
  have tx := dc.2.2.2
  have cc := gixl hc
  have l12 := tx.1
  obtain ⟨a1, a2, a3, a4, a5, a6, a7⟩ := tx.2.2.1 c cl hc
  unfold lw_79_29
  rw [tx.2.1, ← nI_succ]
  refine am_ifn (fun y => by have := (nb_le (a := l.length) (b := c) (by omega) (by omega)).mp y; omega) ?_
  unfold w_82
  refine q83 (nc := l.length) (c3 := 18) (kd := cl.1) rfl rfl rfl (by show l.length ≤ 12; exact tx.1) tx.2.1 tx.1 cc a4 ?_
  exact hs
theorem cls {l : List CLD} (l12 : l.length ≤ 12) (ok : ∀ cl, cl ∈ l → okO cl) (t20 : ∀ cl, cl ∈ l → cl.2.1 ≤ 20) : ∀ (k c : Nat) (V : am_I) (u dn : Nat) (fd : Int32), c + k = l.length → IV V → V 29 0 = nI u → u ≤ 16 → dn + 20 * k ≤ 240 → FDk fd → ∃ (V' : am_I) (u' dn' : Nat) (fd' : Int32) (good : Prop) (b : Nat), u' ≤ 16 ∧ IV V' ∧ V' 29 0 = nI u' ∧ VF V V' ∧ dn' ≤ dn + 20 * k ∧ CLC k c l V V' u u' dn dn' fd fd' good b ∧ CLR k c l V V' u u' dn dn' fd fd' good b
  | 0, c, V, u, dn, fd, hc, h, hu, hu6, hd, hf => by
    refine ⟨V, u, dn, fd, True, 0, hu6, h, hu, VF_r, by omega, ?_, ?_⟩
    · intro N T r s M mk I E R cn e0 e2 dc kG kB
      unfold lw_79_29
      rw [dc.2.2.2.2.1]
      exact am_ifp ((nb_le (by omega) (by omega)).mpr (by omega)) (kG trivial _ I cn e0 e2 frU_r)
    · intro s M mk G H x E R rn e54 e55 dq e21 kG kB
      unfold lw_291_140
      rw [e21]
      exact am_ifp ((nb_le (by omega) (by omega)).mpr (by omega)) (kG trivial _ G H rn e54 e55 fqW_r)
  | k + 1, c, V, u, dn, fd, hk, h, hu, hu6, hd, hf => by
    obtain ⟨cl, hc⟩ : ∃ cl, l[c]? = some cl := ⟨_, List.getElem?_eq_getElem (by omega : c < l.length)⟩
    have ml : cl ∈ l := List.mem_of_getElem? hc
    have t2 := t20 cl ml
    obtain ⟨V1, u1, dn1, fd1, g1, a1, a2, a3, a4, a5, a6, tc, tr⟩ := tms (c := c) (ok cl ml) t2 cl.2.1 0 V u dn fd (by omega) h hu hu6 (by omega) hf
    have lr : ∀ (x : Int32) (G : am_I) (H : am_J) (E R : Int32 → am_I → am_J → Prop), G 66 21 = nI l.length → (∃ n, lw_291_150 n x (nI c) (nI 0) G H (fun o18 I19 L20 => lw_291_140 (k + 1) x (nI (c + 1)) I19 L20 E R) R) → lw_291_140 (k + 1 + 1) x (nI c) G H E R := by
      intro x G H E R e21 hs
      unfold lw_291_140
      rw [e21, ← nI_succ]
      exact am_ifn (fun y => by have := (nb_le (a := l.length) (b := c) (by omega) (by omega)).mp y; omega) hs
    by_cases g : g1
    · obtain ⟨V2, u2, dn2, fd2, g2, b, b1', b2, b3, b4, b5, cc, cr⟩ := cls l12 ok t20 k (c + 1) V1 u1 dn1 fd1 (by omega) a2 a3 a1 (by omega) (a6 g)
      refine ⟨V2, u2, dn2, fd2, g2, b, b1', b2, b3, VF_t a4 b4, by omega, ?_, ?_⟩
      · intro N T r s M mk I E R cn e0 e2 dc kG kB
        refine clc_n dc hc ⟨_, tc T r l s M mk I _ _ cn e0 e2 dc hc (fun _ y J c1 x0 x2 f1 => ?_) (fun z => absurd g z)⟩
        unfold KC
        refine am_ifn (by decide) ?_
        exact cc N T r s M mk J E R c1 x0 x2 (DC_o dc f1) (fun gg y J2 c2 y0 y2 f2 => kG gg y J2 c2 y0 y2 (frU_t f1 f2)) (fun gg J2 f2 => kB gg J2 (frU_t f1 f2))
      · intro s M mk G H x E R rn e54 e55 dq e21 kG kB
        refine lr x G H E R e21 ⟨_, tr l s M mk G H x _ _ rn e54 e55 dq hc (fun _ y F H' c1 x0 x2 f1 => ?_) (fun z => absurd g z)⟩
        exact cr s M mk F H' x E R c1 x0 x2 (DQ_o dq f1) (by rw [f1.2.1 21 (by decide) (by decide) (by decide) (by decide) (by decide) (by decide)]; exact e21) (fun gg y F2 H2 c2 y0 y2 f2 => kG gg y F2 H2 c2 y0 y2 (fqW_t f1 f2)) (fun gg F2 H2 f2 => kB gg F2 H2 (fqW_t f1 f2))
    · refine ⟨V, u, dn, fd, False, c, hu6, h, hu, VF_r, by omega, ?_, ?_⟩
      · intro N T r s M mk I E R cn e0 e2 dc kG kB
        refine clc_n dc hc ⟨_, tc T r l s M mk I _ _ cn e0 e2 dc hc (fun z => absurd z g) (fun _ J f1 => ?_)⟩
        unfold KC
        exact am_ifp rfl (kB (fun z => z) J f1)
      · intro s M mk G H x E R rn e54 e55 dq e21 kG kB
        refine lr x G H E R e21 ⟨_, tr l s M mk G H x _ _ rn e54 e55 dq hc (fun z => absurd z g) (fun _ F H' f1 => ?_)⟩
        exact kB (fun z => z) F H' f1
