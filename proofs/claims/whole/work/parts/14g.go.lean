/-! go -/
/-- the place beyond a door, or -1 -/
def bey (o : Bool) (x a b : Nat) : Int32 := if o = true then (if x = a then nI b else if x = b then nI a else -1) else -1
theorem q95 {a : Nat} {T : Nat → Nat × Nat} {r : Nat → Nat → Option Nat} {I : am_I} {m p d n x y z : Nat} {K : Int32 → Prop} (hm : m ≤ 8) (hp : p < m) (hn : n ≤ 12) (hd : d < n) (e : I 1 10 = nI m) (h1 : (am_ts T a).1 = 20) (h2 : 8 ≤ (am_ts T a).2) (hx : x < 10) (hy : y < 10) (hz : z < 10) (ex : I a p = nI x) (ey : I 2 d = nI y) (ez : I 3 d = nI z) (hK : K (bey (opb (decide (f_20 (I 1 3) (nI d) = 1)) (I a) (I 7) (I 8) m p d) x y z)) : w_95 (nI p) (nI d) a T r I K := by
  unfold w_95
  refine q96 hm hp e h1 h2 ?_
  generalize opb (decide (f_20 (I 1 3) (nI d) = 1)) (I a) (I 7) (I 8) m p d = o at hK
  cases o
  · exact am_ifp rfl hK
  · refine am_ifn (by decide) ?_
    have gp : ¬ (nI p < 0 ∨ (am_ts T a).2 ≤ Int32.toNatClampNeg (nI p)) := by
      rw [nI_clamp (by omega)]
      intro q
      rcases q with q | q
      · exact nI_pos (by omega) q
      · omega
    have gd : ¬ (nI d < 0 ∨ 12 ≤ Int32.toNatClampNeg (nI d)) := nb_gd (by omega) (by decide)
    refine ⟨h1, gp, gd, ?_⟩
    have kp : Int32.toNatClampNeg (nI p) = p := nI_clamp (by omega)
    have kd : Int32.toNatClampNeg (nI d) = d := nI_clamp (by omega)
    rw [kp, kd, ex, ey, ez]
    rw [kp] at gp
    rw [kd] at gd
    unfold bey at hK
    rw [if_pos rfl] at hK
    by_cases c1 : x = y
    · rw [if_pos (by rw [c1])]
      rw [if_pos c1] at hK
      exact ⟨gd, hK⟩
    · rw [if_neg (fun q => c1 ((nb_inj (by omega) (by omega)).mp q))]
      rw [if_neg c1] at hK
      refine ⟨h1, gp, gd, ?_⟩
      by_cases c2 : x = z
      · rw [if_pos (by rw [c2])]
        rw [if_pos c2] at hK
        exact ⟨gd, hK⟩
      · rw [if_neg (fun q => c2 ((nb_inj (by omega) (by omega)).mp q))]
        rw [if_neg c2] at hK
        exact hK
theorem q250 {I : am_I} {d k : Nat} {v : Int32} {K : Int32 → Prop} (hd : d < 12) (hk : k ≤ 2) (e : I 68 (58 + 3 * d + k) = v) (hK : K v) : w_250 (nI d) (nI k) I K := by
  unfold w_250
  rw [ix3]
  refine ⟨nb_gd (by omega) (by decide), ?_⟩
  rw [nI_clamp (by omega), e]
  exact hK
theorem q257 {I : am_I} {d x y z : Nat} {K : Int32 → Prop} (hd : d < 12) (hx : x < 10) (hy : y < 10) (ey : I 68 (58 + 3 * d) = nI y) (ez : I 68 (59 + 3 * d) = nI z) (hK : K (if x = y then nI z else nI y)) : w_257 (nI x) (nI d) I K := by
  unfold w_257
  refine q250 (k := 0) hd (by decide) ey ?_
  by_cases c : x = y
  · refine am_ifp (by rw [c]) ?_
    rw [if_pos c] at hK
    exact q250 (k := 1) hd (by decide) (by rw [show 58 + 3 * d + 1 = 59 + 3 * d by omega]; exact ez) hK
  · refine am_ifn (fun q => c ((nb_inj (by omega) (by omega)).mp q).symm) ?_
    rw [if_neg c] at hK
    exact q250 (k := 0) hd (by decide) ey hK
theorem q253 {I : am_I} {m n p d x y z : Nat} {K : Int32 → Prop} (hm : m ≤ 8) (hp : p < m) (hn : n ≤ 12) (hd : d < n) (e : I 68 1 = nI m) (hx : x < 10) (hy : y < 10) (hz : z < 10) (ex : I 68 (10 + p) = nI x) (ey : I 68 (58 + 3 * d) = nI y) (ez : I 68 (59 + 3 * d) = nI z) (hK : K (b1 ((decide (y = x) || decide (z = x)) && opb (decide (¬ I 68 (60 + 3 * d) = 0)) (fun q => I 68 (10 + q)) (fun q => I 68 (18 + q)) (fun q => I 68 (42 + q)) m p d))) : w_253 (nI p) (nI d) I K := by
  unfold w_253
  obtain ⟨g, k⟩ := ixa (a := 10) (n := p) (by omega)
  refine ⟨g, ?_⟩
  rw [show Int32.toNatClampNeg (10 + nI p) = 10 + p from k, ex]
  unfold w_254
  have go : (decide (y = x) || decide (z = x)) = true → w_247 (nI p) (nI d) I (fun q2 => if q2 = 0 then K 0 else K 1) := by
    intro t
    refine q247 hm hp hn hd e ?_
    rw [t, Bool.true_and] at hK
    generalize opb (decide (¬ I 68 (60 + 3 * d) = 0)) (fun q => I 68 (10 + q)) (fun q => I 68 (18 + q)) (fun q => I 68 (42 + q)) m p d = o at hK
    cases o
    · exact am_ifp rfl hK
    · exact am_ifn (by decide) hK
  refine q250 (k := 0) (by omega) (by decide) ey ?_
  by_cases c1 : y = x
  · refine am_ifp (by rw [c1]) ?_
    refine am_ifn (by decide) ?_
    exact go (by simp [c1])
  · refine am_ifn (fun q => c1 ((nb_inj (by omega) (by omega)).mp q)) ?_
    refine q250 (k := 1) (v := nI z) (by omega) (by decide) (by rw [show 58 + 3 * d + 1 = 59 + 3 * d by omega]; exact ez) ?_
    by_cases c2 : z = x
    · refine am_ifp (by rw [c2]) ?_
      refine am_ifn (by decide) ?_
      exact go (by simp [c2])
    · refine am_ifn (fun q => c2 ((nb_inj (by omega) (by omega)).mp q)) ?_
      refine am_ifp rfl ?_
      rw [show (decide (y = x) || decide (z = x)) = false by simp [c1, c2], Bool.false_and] at hK
      exact hK
theorem bey_b1 (o : Bool) (x y z : Nat) (hy : y < 10) (hz : z < 10) : (b1 ((decide (y = x) || decide (z = x)) && o) = 0 ∧ bey o x y z = -1) ∨ (b1 ((decide (y = x) || decide (z = x)) && o) = 1 ∧ bey o x y z = (if x = y then nI z else nI y) ∧ ∃ w, w < 10 ∧ bey o x y z = nI w) := by
  unfold bey
  cases o
  · refine Or.inl ⟨by simp [b1], by simp⟩
  · rw [if_pos rfl, Bool.and_true]
    by_cases c1 : x = y
    · refine Or.inr ⟨b1_t (by simp [c1]), by rw [if_pos c1, if_pos c1], z, hz, by rw [if_pos c1]⟩
    · by_cases c2 : x = z
      · refine Or.inr ⟨b1_t (by simp [c2]), by rw [if_neg c1, if_pos c2, if_neg c1], y, hy, by rw [if_neg c1, if_pos c2]⟩
      · refine Or.inl ⟨b1_f (by simp [Ne.symm c1, Ne.symm c2]), by rw [if_neg c1, if_neg c2]⟩
theorem o_18 {D : am_P} (hD : FrD D) {N : Nat} {T : Nat → Nat × Nat} {r : Nat → Nat → Option Nat} {I : am_I} {L : am_J} (h : Inv D N T r I L) (x1 x2 : Int32) : op_18 x1 x2 (Inv D) N T r I L := by
  unfold op_18 w_117 w_94
  obtain ⟨m, v, hm, hv, e1, e2, e3, hp⟩ := id h.1.2.1
  obtain ⟨n, w, hn, hw, f1, f2, f3, hpd⟩ := id h.1.1
  obtain ⟨a, b, c, d, e, ha, hb1, hb2, hc, hd, he, q1, q2, q3, q4, q5, s1, s2, s3, s4, s5⟩ := id h.1.2.2.2.2.1
  obtain ⟨u, m', hu, hm', w1, eu, eu2, old⟩ := id h.1.2.2.2.2.2.2.1
  rcases qm hm e1 e2 x1 with ⟨c1, c2, _⟩ | ⟨c1, c2, p, hpm, rfl⟩
  · rw [if_pos c1]
    refine so2 ?_
    show w_251 _ _ _ _
    unfold w_251 w_252
    exact am_ifp c2 (tl2 ⟨rfl, inv_r2 hD h⟩)
  rw [if_neg (by rw [c1]; decide)]
  have n2 : ¬ f_192 (nI p) I = 0 := by rw [c2]; decide
  rcases qd hn f1 f2 x2 with ⟨d1, d2, _⟩ | ⟨d1, d2, dd, hdd, rfl⟩
  · rw [if_pos d1]
    refine so2 ?_
    show w_251 _ _ _ _
    unfold w_251 w_252
    exact am_ifn n2 (am_ifp d2 (tl2 ⟨rfl, inv_r2 hD h⟩))
  rw [if_neg (by rw [d1]; decide)]
  have n3 : ¬ f_187 (nI dd) I = 0 := by rw [d2]; decide
  have hpl : ∀ q, q < m → I 6 q = I 68 (10 + q) := by
    intro q hq
    obtain ⟨_, y, w, a, k, t, _, _, _, _, _, _, _, _, q3, _, _, _, _, s3, _, _⟩ := hp q hq
    exact q3.trans s3.symm
  have oe := op_eq (pl := I 6) hw hn hdd f3 (hpd dd hdd).1 hp hpm hpl
  obtain ⟨_, ya, wa, x, ka, ta, y1, y2, y3, hx, y5, y6, z1, z2, px, z4, z5, t1, t2, rx, t4, t5⟩ := hp p hpm
  obtain ⟨_, y, z, hy, hz, hyz, py, pz, ry, rz⟩ := hpd dd hdd
  refine q95 (a := 6) hm hpm hn hdd e1 rfl (show 8 ≤ 8 from Nat.le_refl 8) hx hy hz px py pz ?_
  rw [oe]
  have key := bey_b1 (opb (decide (¬ I 68 (60 + 3 * dd) = 0)) (fun q => I 68 (10 + q)) (fun q => I 68 (18 + q)) (fun q => I 68 (42 + q)) m p dd) x y z hy hz
  rcases key with ⟨k1, k2⟩ | ⟨k1, k2, w', hw', k3⟩
  · refine am_ifp k2 ?_
    refine so3 ?_
    show w_251 _ _ _ _
    unfold w_251 w_252
    refine am_ifn n2 (am_ifn n3 ?_)
    refine q253 (x := x) (y := y) (z := z) hm hpm hn hdd e2 hx hy hz rx ry rz ?_
    refine am_ifp k1 ?_
    exact tl3 ⟨rfl, inv_r3 hD h⟩
  · rw [k3]
    refine am_ifn (nb_m1 (by omega)) ?_
    have gp : ¬ (nI p < 0 ∨ 8 ≤ Int32.toNatClampNeg (nI p)) := nb_gd (by omega) (by decide)
    refine ⟨gp, ?_⟩
    have kp : Int32.toNatClampNeg (nI p) = p := nI_clamp (by omega)
    rw [kp, px]
    refine q97 hu eu (fun C t s g1 g2 g3 g4 kc => ?_)
    rw [kp] at gp
    refine ⟨gp, ?_⟩
    refine so0 (nI_pos' (by omega)) ?_
    show w_251 _ _ _ _
    unfold w_251 w_252
    have c66 : C 66 = I 66 := kc.1 66 (by decide)
    have c68 : C 68 = I 68 := kc.1 68 (by decide)
    generalize hZ : am_u (am_u (am_u (am_u C 6 p (nI w')) 0 12 0) 0 10 0) 66 0 0 = Z
    have Z68 : Z 68 = I 68 := by rw [← hZ, uu_h (by decide), uu_h (by decide), uu_h (by decide), uu_h (by decide)]; exact c68
    have Z66 : Z 66 8 = nI u := by rw [← hZ, uu_n (by decide), uu_c (by decide), uu_c (by decide), uu_c (by decide), c66]; exact eu2
    refine am_ifn (show ¬ f_192 (nI p) Z = 0 by unfold f_192 at n2 ⊢; rw [Z68]; exact n2) (am_ifn (show ¬ f_187 (nI dd) Z = 0 by unfold f_187 at n3 ⊢; rw [Z68]; exact n3) ?_)
    refine q253 (x := x) (y := y) (z := z) hm hpm hn hdd (by rw [Z68]; exact e2) hx hy hz (by rw [Z68]; exact rx) (by rw [Z68]; exact ry) (by rw [Z68]; exact rz) ?_
    rw [Z68]
    refine am_ifn (by rw [k1]; decide) ?_
    refine q255 hu Z66 (fun M t' s' k1' k2' k3' k4' rm => ?_)
    have M68 : M 68 = I 68 := by rw [rm.1 68 (by decide) (by decide) (by decide), Z68]
    obtain ⟨g10, k10⟩ := ixa (a := 10) (n := p) (by omega)
    have k10 : Int32.toNatClampNeg (10 + nI p) = 10 + p := k10
    refine ⟨g10, ?_⟩
    rw [k10, M68, rx]
    refine q257 (x := x) (y := y) (z := z) (by omega) hx hy (by rw [M68]; exact ry) (by rw [M68]; exact rz) ?_
    rw [← k2, k3]
    refine ⟨(show ¬ ((10 : Int32) + nI p < 0 ∨ 5510 ≤ 10 + p) by rw [← k10]; exact g10), (show ¬ ((10 : Int32) + nI p < 0 ∨ 5510 ≤ 10 + p) by rw [← k10]; exact g10), ?_⟩
    rw [uu_e]
    refine tl0 (nI_pos' (by omega)) ⟨rfl, ?_⟩
    have G68 : ∀ i, i ≠ 10 + p → am_u M 68 (10 + p) (nI w') 68 i = I 68 i := fun i hi => by rw [uu_n hi, M68]
    have C6 : ∀ i, i ≠ p → am_u C 6 p (nI w') 6 i = I 6 i := fun i hi => by rw [uu_n hi, kc.1 6 (by decide)]
    have C1 : am_u C 6 p (nI w') 1 = I 1 := by rw [uu_h (by decide), kc.1 1 (by decide)]
    rw [← hZ] at rm
    refine inv_act2 hD h eu e2 hm g1 g2 g3 g4 k1' k2' k3' k4' kc (fun c n1 n6 n7 n12 => uu_h n6) (fun i _ => by rw [C1]) rm (fun c hc => uu_h hc) (fun i hi => G68 i (by omega)) ?_ ?_ (Or.inl ⟨rfl, p, x, hpm, hx, rfl, rfl⟩) (fun i hi => ?_)
    · rw [C1, uu_h (show (7 : Nat) ≠ 6 by decide), kc.1 7 (by decide)]
      refine ⟨m, v, hm, hv, e1, (G68 1 (by omega)).trans e2, e3, fun j hj => ?_⟩
      obtain ⟨b0, yj, wj, aj, kj, tj, j1, j2, j3, j4, j5, j6, i1, i2, i3, i4, i5, o1, o2, o3, o4, o5⟩ := hp j hj
      refine ⟨(G68 _ (by omega)).trans b0, ?_⟩
      by_cases ej : j = p
      · subst ej
        exact ⟨yj, wj, w', kj, tj, j1, j2, j3, hw', j5, j6, i1, i2, uu_e, i4, i5, (G68 _ (by omega)).trans o1, (G68 _ (by omega)).trans o2, uu_e, (G68 _ (by omega)).trans o4, (G68 _ (by omega)).trans o5⟩
      · exact ⟨yj, wj, aj, kj, tj, j1, j2, j3, j4, j5, j6, i1, i2, (C6 j ej).trans i3, i4, i5, (G68 _ (by omega)).trans o1, (G68 _ (by omega)).trans o2, (G68 _ (by omega)).trans o3, (G68 _ (by omega)).trans o4, (G68 _ (by omega)).trans o5⟩
    · rw [C1, uu_h (show (12 : Nat) ≠ 6 by decide), kc.1 12 (by decide)]
      exact PRt_cg h.1.2.2.2.2.1 rfl (fun i _ _ => G68 i (by omega))
    · unfold ust
      rw [if_pos rfl, kp]
      by_cases i0 : i = 5 + p
      · rw [if_pos i0, i0, show 5 + (5 + p) = 10 + p by omega]
        exact rx
      · rw [if_neg i0]
        exact (G68 _ (by omega)).symm
