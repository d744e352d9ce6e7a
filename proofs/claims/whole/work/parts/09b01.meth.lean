/-- KeyKeepers$Text.<init>(II)V -/
def w_3 (a : Nat) (x0 : Int32) (x1 : Int32) (N : Nat) (T : Nat → Nat × Nat) (r : Nat → Nat → Option Nat) (I : am_I) (L : am_J) (K : Nat → (Nat → Nat × Nat) → (Nat → Nat → Option Nat) → am_I → am_J → Prop) : Prop :=
  99 ≤ N ∧ ¬ ((if (0 : Int32) < x0 then x0 else (0 : Int32)) < 0 ∨ 60000000 < Int32.toNatClampNeg (if (0 : Int32) < x0 then x0 else (0 : Int32))) ∧ (1 ≤ 4 ∧ 0 + (Int32.toNatClampNeg (if (0 : Int32) < x0 then x0 else (0 : Int32))) ≤ 484) ∧
  am_fr a 0 ∧ ((am_ts (am_tn T N 20 (Int32.toNatClampNeg (if (0 : Int32) < x0 then x0 else (0 : Int32)))) a).1 = 11) ∧ 
  99 ≤ (N + 1) ∧ ¬ ((if (0 : Int32) < x1 then x1 else (0 : Int32)) < 0 ∨ 60000000 < Int32.toNatClampNeg (if (0 : Int32) < x1 then x1 else (0 : Int32))) ∧ (2 ≤ 4 ∧ 0 + (Int32.toNatClampNeg (if (0 : Int32) < x0 then x0 else (0 : Int32))) + (Int32.toNatClampNeg (if (0 : Int32) < x1 then x1 else (0 : Int32))) ≤ 484) ∧
  am_fr a 3 ∧ ((am_ts (am_tn (am_tn T N 20 (Int32.toNatClampNeg (if (0 : Int32) < x0 then x0 else (0 : Int32)))) (N + 1) 20 (Int32.toNatClampNeg (if (0 : Int32) < x1 then x1 else (0 : Int32)))) a).1 = 11) ∧ 
  99 ≤ ((N + 1) + 1) ∧ ¬ ((if (0 : Int32) < x1 then x1 else (0 : Int32)) < 0 ∨ 60000000 < Int32.toNatClampNeg (if (0 : Int32) < x1 then x1 else (0 : Int32))) ∧ (3 ≤ 4 ∧ 0 + (Int32.toNatClampNeg (if (0 : Int32) < x0 then x0 else (0 : Int32))) + (Int32.toNatClampNeg (if (0 : Int32) < x1 then x1 else (0 : Int32))) + (Int32.toNatClampNeg (if (0 : Int32) < x1 then x1 else (0 : Int32))) ≤ 484) ∧
  am_fr a 4 ∧ ((am_ts (am_tn (am_tn (am_tn T N 20 (Int32.toNatClampNeg (if (0 : Int32) < x0 then x0 else (0 : Int32)))) (N + 1) 20 (Int32.toNatClampNeg (if (0 : Int32) < x1 then x1 else (0 : Int32)))) ((N + 1) + 1) 20 (Int32.toNatClampNeg (if (0 : Int32) < x1 then x1 else (0 : Int32)))) a).1 = 11) ∧ 
  99 ≤ (((N + 1) + 1) + 1) ∧ ¬ (((if (0 : Int32) < x1 then x1 else (0 : Int32)) * 5) < 0 ∨ 60000000 < Int32.toNatClampNeg ((if (0 : Int32) < x1 then x1 else (0 : Int32)) * 5)) ∧ (4 ≤ 4 ∧ 0 + (Int32.toNatClampNeg (if (0 : Int32) < x0 then x0 else (0 : Int32))) + (Int32.toNatClampNeg (if (0 : Int32) < x1 then x1 else (0 : Int32))) + (Int32.toNatClampNeg (if (0 : Int32) < x1 then x1 else (0 : Int32))) + (Int32.toNatClampNeg ((if (0 : Int32) < x1 then x1 else (0 : Int32)) * 5)) ≤ 484) ∧
  am_fr a 5 ∧ ((am_ts (am_tn (am_tn (am_tn (am_tn T N 20 (Int32.toNatClampNeg (if (0 : Int32) < x0 then x0 else (0 : Int32)))) (N + 1) 20 (Int32.toNatClampNeg (if (0 : Int32) < x1 then x1 else (0 : Int32)))) ((N + 1) + 1) 20 (Int32.toNatClampNeg (if (0 : Int32) < x1 then x1 else (0 : Int32)))) (((N + 1) + 1) + 1) 20 (Int32.toNatClampNeg ((if (0 : Int32) < x1 then x1 else (0 : Int32)) * 5))) a).1 = 11) ∧ 
  K ((((N + 1) + 1) + 1) + 1) (am_tn (am_tn (am_tn (am_tn T N 20 (Int32.toNatClampNeg (if (0 : Int32) < x0 then x0 else (0 : Int32)))) (N + 1) 20 (Int32.toNatClampNeg (if (0 : Int32) < x1 then x1 else (0 : Int32)))) ((N + 1) + 1) 20 (Int32.toNatClampNeg (if (0 : Int32) < x1 then x1 else (0 : Int32)))) (((N + 1) + 1) + 1) 20 (Int32.toNatClampNeg ((if (0 : Int32) < x1 then x1 else (0 : Int32)) * 5))) (am_u (am_z (am_u (am_z (am_u (am_z (am_u (am_z r N none) a 0 (some N)) (N + 1) none) a 3 (some (N + 1))) ((N + 1) + 1) none) a 4 (some ((N + 1) + 1))) (((N + 1) + 1) + 1) none) a 5 (some (((N + 1) + 1) + 1))) (am_z (am_z (am_z (am_z I N 0) (N + 1) 0) ((N + 1) + 1) 0) (((N + 1) + 1) + 1) 0) (am_z (am_z (am_z (am_z L N 0) (N + 1) 0) ((N + 1) + 1) 0) (((N + 1) + 1) + 1) 0)
set_option maxRecDepth 100000 in
theorem s_3 {S : am_S} {d : Nat} {N : Nat} {T : Nat → Nat × Nat} {I : am_I} {L : am_J} {r : Nat → Nat → Option Nat} {Q : am_Q} {a : Nat} {x0 : Int32} {x1 : Int32} {K : Nat → (Nat → Nat × Nat) → (Nat → Nat → Option Nat) → am_I → am_J → Prop} (hw : w_3 a x0 x1 N T r I L K) (hK : ∀ (N1 : Nat) (T1 : Nat → Nat × Nat) (r1 : Nat → Nat → Option Nat) (I1 : am_I) (L1 : am_J), K N1 T1 r1 I1 L1 → Q (none) (N1, am_ts T1, I1, L1, am_rs r1)) : am_E S 3 (d + 1) 0 0 0 [.ref a, .int x0, .int x1, am_jk] [] (N, am_ts T, I, L, am_rs r) Q := by
  unfold w_3 at hw
  try dsimp only at hw
  refine am_E.run [18] 2000 (show (if (if (0 : Int32) < x0 then x0 else (0 : Int32)) < 0 ∨ 60000000 < Int32.toNatClampNeg (if (0 : Int32) < x0 then x0 else (0 : Int32)) then False else (if 0 + 1 ≤ am_mc 3 ∧ 0 + (Int32.toNatClampNeg (if (0 : Int32) < x0 then x0 else (0 : Int32))) ≤ am_ms 3 then (am_E S 3 (d + 1) 1 (0 + (Int32.toNatClampNeg (if (0 : Int32) < x0 then x0 else (0 : Int32)))) 18 [.ref a, .int x0, .int x1, .int (if (0 : Int32) < x1 then x1 else (0 : Int32))] [.ref N, .ref a] (am_n (N, am_ts T, I, L, am_rs r) 20 (Int32.toNatClampNeg (if (0 : Int32) < x0 then x0 else (0 : Int32)))) Q) else False)) from ?_)
  have hN := hw.1
  replace hw := hw.2
  refine am_ifn hw.1 ?_
  replace hw := hw.2
  refine am_ifp (show 0 + 1 ≤ am_mc 3 ∧ 0 + (Int32.toNatClampNeg (if (0 : Int32) < x0 then x0 else (0 : Int32))) ≤ am_ms 3 from hw.1) ?_
  replace hw := hw.2
  rw [am_n_eq hN]
  refine am_E.run [21] 2000 (show (if (am_ts (am_tn T N 20 (Int32.toNatClampNeg (if (0 : Int32) < x0 then x0 else (0 : Int32)))) a).1 = 11 then (if 2 = 2 then (am_E S 3 (d + 1) 1 (0 + (Int32.toNatClampNeg (if (0 : Int32) < x0 then x0 else (0 : Int32)))) 21 [.ref a, .int x0, .int x1, .int (if (0 : Int32) < x1 then x1 else (0 : Int32))] [] ((N + 1), am_ts (am_tn T N 20 (Int32.toNatClampNeg (if (0 : Int32) < x0 then x0 else (0 : Int32)))), (am_z I N 0), (am_z L N 0), am_u (am_rs (am_z r N none)) a 0 (some N)) Q) else False) else False) from ?_)
  have hN := hw.1
  replace hw := hw.2
  refine am_ifp hw.1 ?_
  replace hw := hw.2
  refine am_ifp rfl ?_
  rw [am_rs_u hN]
  refine am_E.run [25] 2000 (show (if (if (0 : Int32) < x1 then x1 else (0 : Int32)) < 0 ∨ 60000000 < Int32.toNatClampNeg (if (0 : Int32) < x1 then x1 else (0 : Int32)) then False else (if 1 + 1 ≤ am_mc 3 ∧ 0 + (Int32.toNatClampNeg (if (0 : Int32) < x0 then x0 else (0 : Int32))) + (Int32.toNatClampNeg (if (0 : Int32) < x1 then x1 else (0 : Int32))) ≤ am_ms 3 then (am_E S 3 (d + 1) 2 (0 + (Int32.toNatClampNeg (if (0 : Int32) < x0 then x0 else (0 : Int32))) + (Int32.toNatClampNeg (if (0 : Int32) < x1 then x1 else (0 : Int32)))) 25 [.ref a, .int x0, .int x1, .int (if (0 : Int32) < x1 then x1 else (0 : Int32))] [.ref (N + 1), .ref a] (am_n ((N + 1), am_ts (am_tn T N 20 (Int32.toNatClampNeg (if (0 : Int32) < x0 then x0 else (0 : Int32)))), (am_z I N 0), (am_z L N 0), am_rs (am_u (am_z r N none) a 0 (some N))) 20 (Int32.toNatClampNeg (if (0 : Int32) < x1 then x1 else (0 : Int32)))) Q) else False)) from ?_)
  have hN := hw.1
  replace hw := hw.2
  refine am_ifn hw.1 ?_
  replace hw := hw.2
  refine am_ifp (show 1 + 1 ≤ am_mc 3 ∧ 0 + (Int32.toNatClampNeg (if (0 : Int32) < x0 then x0 else (0 : Int32))) + (Int32.toNatClampNeg (if (0 : Int32) < x1 then x1 else (0 : Int32))) ≤ am_ms 3 from hw.1) ?_
  replace hw := hw.2
  rw [am_n_eq hN]
  refine am_E.run [28] 2000 (show (if (am_ts (am_tn (am_tn T N 20 (Int32.toNatClampNeg (if (0 : Int32) < x0 then x0 else (0 : Int32)))) (N + 1) 20 (Int32.toNatClampNeg (if (0 : Int32) < x1 then x1 else (0 : Int32)))) a).1 = 11 then (if 2 = 2 then (am_E S 3 (d + 1) 2 (0 + (Int32.toNatClampNeg (if (0 : Int32) < x0 then x0 else (0 : Int32))) + (Int32.toNatClampNeg (if (0 : Int32) < x1 then x1 else (0 : Int32)))) 28 [.ref a, .int x0, .int x1, .int (if (0 : Int32) < x1 then x1 else (0 : Int32))] [] (((N + 1) + 1), am_ts (am_tn (am_tn T N 20 (Int32.toNatClampNeg (if (0 : Int32) < x0 then x0 else (0 : Int32)))) (N + 1) 20 (Int32.toNatClampNeg (if (0 : Int32) < x1 then x1 else (0 : Int32)))), (am_z (am_z I N 0) (N + 1) 0), (am_z (am_z L N 0) (N + 1) 0), am_u (am_rs (am_z (am_u (am_z r N none) a 0 (some N)) (N + 1) none)) a 3 (some (N + 1))) Q) else False) else False) from ?_)
  have hN := hw.1
  replace hw := hw.2
  refine am_ifp hw.1 ?_
  replace hw := hw.2
  refine am_ifp rfl ?_
  rw [am_rs_u hN]
  refine am_E.run [32] 2000 (show (if (if (0 : Int32) < x1 then x1 else (0 : Int32)) < 0 ∨ 60000000 < Int32.toNatClampNeg (if (0 : Int32) < x1 then x1 else (0 : Int32)) then False else (if 2 + 1 ≤ am_mc 3 ∧ 0 + (Int32.toNatClampNeg (if (0 : Int32) < x0 then x0 else (0 : Int32))) + (Int32.toNatClampNeg (if (0 : Int32) < x1 then x1 else (0 : Int32))) + (Int32.toNatClampNeg (if (0 : Int32) < x1 then x1 else (0 : Int32))) ≤ am_ms 3 then (am_E S 3 (d + 1) 3 (0 + (Int32.toNatClampNeg (if (0 : Int32) < x0 then x0 else (0 : Int32))) + (Int32.toNatClampNeg (if (0 : Int32) < x1 then x1 else (0 : Int32))) + (Int32.toNatClampNeg (if (0 : Int32) < x1 then x1 else (0 : Int32)))) 32 [.ref a, .int x0, .int x1, .int (if (0 : Int32) < x1 then x1 else (0 : Int32))] [.ref ((N + 1) + 1), .ref a] (am_n (((N + 1) + 1), am_ts (am_tn (am_tn T N 20 (Int32.toNatClampNeg (if (0 : Int32) < x0 then x0 else (0 : Int32)))) (N + 1) 20 (Int32.toNatClampNeg (if (0 : Int32) < x1 then x1 else (0 : Int32)))), (am_z (am_z I N 0) (N + 1) 0), (am_z (am_z L N 0) (N + 1) 0), am_rs (am_u (am_z (am_u (am_z r N none) a 0 (some N)) (N + 1) none) a 3 (some (N + 1)))) 20 (Int32.toNatClampNeg (if (0 : Int32) < x1 then x1 else (0 : Int32)))) Q) else False)) from ?_)
  have hN := hw.1
  replace hw := hw.2
  refine am_ifn hw.1 ?_
  replace hw := hw.2
  refine am_ifp (show 2 + 1 ≤ am_mc 3 ∧ 0 + (Int32.toNatClampNeg (if (0 : Int32) < x0 then x0 else (0 : Int32))) + (Int32.toNatClampNeg (if (0 : Int32) < x1 then x1 else (0 : Int32))) + (Int32.toNatClampNeg (if (0 : Int32) < x1 then x1 else (0 : Int32))) ≤ am_ms 3 from hw.1) ?_
  replace hw := hw.2
  rw [am_n_eq hN]
  refine am_E.run [35] 2000 (show (if (am_ts (am_tn (am_tn (am_tn T N 20 (Int32.toNatClampNeg (if (0 : Int32) < x0 then x0 else (0 : Int32)))) (N + 1) 20 (Int32.toNatClampNeg (if (0 : Int32) < x1 then x1 else (0 : Int32)))) ((N + 1) + 1) 20 (Int32.toNatClampNeg (if (0 : Int32) < x1 then x1 else (0 : Int32)))) a).1 = 11 then (if 2 = 2 then (am_E S 3 (d + 1) 3 (0 + (Int32.toNatClampNeg (if (0 : Int32) < x0 then x0 else (0 : Int32))) + (Int32.toNatClampNeg (if (0 : Int32) < x1 then x1 else (0 : Int32))) + (Int32.toNatClampNeg (if (0 : Int32) < x1 then x1 else (0 : Int32)))) 35 [.ref a, .int x0, .int x1, .int (if (0 : Int32) < x1 then x1 else (0 : Int32))] [] ((((N + 1) + 1) + 1), am_ts (am_tn (am_tn (am_tn T N 20 (Int32.toNatClampNeg (if (0 : Int32) < x0 then x0 else (0 : Int32)))) (N + 1) 20 (Int32.toNatClampNeg (if (0 : Int32) < x1 then x1 else (0 : Int32)))) ((N + 1) + 1) 20 (Int32.toNatClampNeg (if (0 : Int32) < x1 then x1 else (0 : Int32)))), (am_z (am_z (am_z I N 0) (N + 1) 0) ((N + 1) + 1) 0), (am_z (am_z (am_z L N 0) (N + 1) 0) ((N + 1) + 1) 0), am_u (am_rs (am_z (am_u (am_z (am_u (am_z r N none) a 0 (some N)) (N + 1) none) a 3 (some (N + 1))) ((N + 1) + 1) none)) a 4 (some ((N + 1) + 1))) Q) else False) else False) from ?_)
  have hN := hw.1
  replace hw := hw.2
  refine am_ifp hw.1 ?_
  replace hw := hw.2
  refine am_ifp rfl ?_
  rw [am_rs_u hN]
  refine am_E.run [41] 2000 (show (if ((if (0 : Int32) < x1 then x1 else (0 : Int32)) * 5) < 0 ∨ 60000000 < Int32.toNatClampNeg ((if (0 : Int32) < x1 then x1 else (0 : Int32)) * 5) then False else (if 3 + 1 ≤ am_mc 3 ∧ 0 + (Int32.toNatClampNeg (if (0 : Int32) < x0 then x0 else (0 : Int32))) + (Int32.toNatClampNeg (if (0 : Int32) < x1 then x1 else (0 : Int32))) + (Int32.toNatClampNeg (if (0 : Int32) < x1 then x1 else (0 : Int32))) + (Int32.toNatClampNeg ((if (0 : Int32) < x1 then x1 else (0 : Int32)) * 5)) ≤ am_ms 3 then (am_E S 3 (d + 1) 4 (0 + (Int32.toNatClampNeg (if (0 : Int32) < x0 then x0 else (0 : Int32))) + (Int32.toNatClampNeg (if (0 : Int32) < x1 then x1 else (0 : Int32))) + (Int32.toNatClampNeg (if (0 : Int32) < x1 then x1 else (0 : Int32))) + (Int32.toNatClampNeg ((if (0 : Int32) < x1 then x1 else (0 : Int32)) * 5))) 41 [.ref a, .int x0, .int x1, .int (if (0 : Int32) < x1 then x1 else (0 : Int32))] [.ref (((N + 1) + 1) + 1), .ref a] (am_n ((((N + 1) + 1) + 1), am_ts (am_tn (am_tn (am_tn T N 20 (Int32.toNatClampNeg (if (0 : Int32) < x0 then x0 else (0 : Int32)))) (N + 1) 20 (Int32.toNatClampNeg (if (0 : Int32) < x1 then x1 else (0 : Int32)))) ((N + 1) + 1) 20 (Int32.toNatClampNeg (if (0 : Int32) < x1 then x1 else (0 : Int32)))), (am_z (am_z (am_z I N 0) (N + 1) 0) ((N + 1) + 1) 0), (am_z (am_z (am_z L N 0) (N + 1) 0) ((N + 1) + 1) 0), am_rs (am_u (am_z (am_u (am_z (am_u (am_z r N none) a 0 (some N)) (N + 1) none) a 3 (some (N + 1))) ((N + 1) + 1) none) a 4 (some ((N + 1) + 1)))) 20 (Int32.toNatClampNeg ((if (0 : Int32) < x1 then x1 else (0 : Int32)) * 5))) Q) else False)) from ?_)
  have hN := hw.1
  replace hw := hw.2
  refine am_ifn hw.1 ?_
  replace hw := hw.2
  refine am_ifp (show 3 + 1 ≤ am_mc 3 ∧ 0 + (Int32.toNatClampNeg (if (0 : Int32) < x0 then x0 else (0 : Int32))) + (Int32.toNatClampNeg (if (0 : Int32) < x1 then x1 else (0 : Int32))) + (Int32.toNatClampNeg (if (0 : Int32) < x1 then x1 else (0 : Int32))) + (Int32.toNatClampNeg ((if (0 : Int32) < x1 then x1 else (0 : Int32)) * 5)) ≤ am_ms 3 from hw.1) ?_
  replace hw := hw.2
  rw [am_n_eq hN]
  refine am_E.run [44] 2000 (show (if (am_ts (am_tn (am_tn (am_tn (am_tn T N 20 (Int32.toNatClampNeg (if (0 : Int32) < x0 then x0 else (0 : Int32)))) (N + 1) 20 (Int32.toNatClampNeg (if (0 : Int32) < x1 then x1 else (0 : Int32)))) ((N + 1) + 1) 20 (Int32.toNatClampNeg (if (0 : Int32) < x1 then x1 else (0 : Int32)))) (((N + 1) + 1) + 1) 20 (Int32.toNatClampNeg ((if (0 : Int32) < x1 then x1 else (0 : Int32)) * 5))) a).1 = 11 then (if 2 = 2 then (am_E S 3 (d + 1) 4 (0 + (Int32.toNatClampNeg (if (0 : Int32) < x0 then x0 else (0 : Int32))) + (Int32.toNatClampNeg (if (0 : Int32) < x1 then x1 else (0 : Int32))) + (Int32.toNatClampNeg (if (0 : Int32) < x1 then x1 else (0 : Int32))) + (Int32.toNatClampNeg ((if (0 : Int32) < x1 then x1 else (0 : Int32)) * 5))) 44 [.ref a, .int x0, .int x1, .int (if (0 : Int32) < x1 then x1 else (0 : Int32))] [] (((((N + 1) + 1) + 1) + 1), am_ts (am_tn (am_tn (am_tn (am_tn T N 20 (Int32.toNatClampNeg (if (0 : Int32) < x0 then x0 else (0 : Int32)))) (N + 1) 20 (Int32.toNatClampNeg (if (0 : Int32) < x1 then x1 else (0 : Int32)))) ((N + 1) + 1) 20 (Int32.toNatClampNeg (if (0 : Int32) < x1 then x1 else (0 : Int32)))) (((N + 1) + 1) + 1) 20 (Int32.toNatClampNeg ((if (0 : Int32) < x1 then x1 else (0 : Int32)) * 5))), (am_z (am_z (am_z (am_z I N 0) (N + 1) 0) ((N + 1) + 1) 0) (((N + 1) + 1) + 1) 0), (am_z (am_z (am_z (am_z L N 0) (N + 1) 0) ((N + 1) + 1) 0) (((N + 1) + 1) + 1) 0), am_u (am_rs (am_z (am_u (am_z (am_u (am_z (am_u (am_z r N none) a 0 (some N)) (N + 1) none) a 3 (some (N + 1))) ((N + 1) + 1) none) a 4 (some ((N + 1) + 1))) (((N + 1) + 1) + 1) none)) a 5 (some (((N + 1) + 1) + 1))) Q) else False) else False) from ?_)
  have hN := hw.1
  replace hw := hw.2
  refine am_ifp hw.1 ?_
  replace hw := hw.2
  refine am_ifp rfl ?_
  rw [am_rs_u hN]
  refine am_E.run [] 2000 (show (True ∧ Q (none) (((((N + 1) + 1) + 1) + 1), am_ts (am_tn (am_tn (am_tn (am_tn T N 20 (Int32.toNatClampNeg (if (0 : Int32) < x0 then x0 else (0 : Int32)))) (N + 1) 20 (Int32.toNatClampNeg (if (0 : Int32) < x1 then x1 else (0 : Int32)))) ((N + 1) + 1) 20 (Int32.toNatClampNeg (if (0 : Int32) < x1 then x1 else (0 : Int32)))) (((N + 1) + 1) + 1) 20 (Int32.toNatClampNeg ((if (0 : Int32) < x1 then x1 else (0 : Int32)) * 5))), (am_z (am_z (am_z (am_z I N 0) (N + 1) 0) ((N + 1) + 1) 0) (((N + 1) + 1) + 1) 0), (am_z (am_z (am_z (am_z L N 0) (N + 1) 0) ((N + 1) + 1) 0) (((N + 1) + 1) + 1) 0), am_rs (am_u (am_z (am_u (am_z (am_u (am_z (am_u (am_z r N none) a 0 (some N)) (N + 1) none) a 3 (some (N + 1))) ((N + 1) + 1) none) a 4 (some ((N + 1) + 1))) (((N + 1) + 1) + 1) none) a 5 (some (((N + 1) + 1) + 1))))) from ?_)
  exact ⟨trivial, hK _ _ _ _ _ hw⟩
/-- KeyKeepers.within(III)Z -/
def f_13 (x0 : Int32) (x1 : Int32) (x2 : Int32) : Int32 :=
  if x0 < x1 then
    0
  else
    if x2 < x0 then
      0
    else
      1
set_option maxRecDepth 100000 in
theorem s_13 {S : am_S} {d : Nat} {N : Nat} {T : Nat → Nat × Nat} {I : am_I} {L : am_J} {r : Nat → Nat → Option Nat} {Q : am_Q} {x0 : Int32} {x1 : Int32} {x2 : Int32} (hq : Q (some (.int (f_13 x0 x1 x2))) (N, am_ts T, I, L, am_rs r)) : am_E S 13 (d + 0) 0 0 0 [.int x0, .int x1, .int x2] [] (N, am_ts T, I, L, am_rs r) Q := by
  unfold f_13 at hq
  try dsimp only at hq
  refine am_E.run [] 2000 (show (if x0 < x1 then (((0 : Int32) = 0 ∨ (0 : Int32) = 1) ∧ Q (some (.int 0)) (N, am_ts T, I, L, am_rs r)) else (if x2 < x0 then (((0 : Int32) = 0 ∨ (0 : Int32) = 1) ∧ Q (some (.int 0)) (N, am_ts T, I, L, am_rs r)) else (((1 : Int32) = 0 ∨ (1 : Int32) = 1) ∧ Q (some (.int 1)) (N, am_ts T, I, L, am_rs r)))) from ?_)
  by_cases hc : x0 < x1
  · rw [if_pos hc] at hq ⊢
    exact ⟨Or.inl rfl, hq⟩
  · rw [if_neg hc] at hq ⊢
    by_cases hc : x2 < x0
    · rw [if_pos hc] at hq ⊢
      exact ⟨Or.inl rfl, hq⟩
    · rw [if_neg hc] at hq ⊢
      exact ⟨Or.inr rfl, hq⟩
theorem b_13 {x0 : Int32} {x1 : Int32} {x2 : Int32} : (f_13 x0 x1 x2) = 0 ∨ (f_13 x0 x1 x2) = 1 := by
  unfold f_13
  (repeat' split) <;> first | exact Or.inl rfl | exact Or.inr rfl
/-- KeyKeepers.refuse(I)I -/
def w_14 (x0 : Int32) (I : am_I) (K : Int32 → am_I → Prop) : Prop :=
  if x0 ≤ (-5) then
    if ((-x0) - 2) < 0 then
      K x0 (am_u I 0 12 x0)
    else
      if (Int32.ofNat 5) ≤ ((-x0) - 2) then
        K x0 (am_u I 0 12 x0)
      else
        ¬ (((-x0) - 2) < 0 ∨ 5 ≤ Int32.toNatClampNeg ((-x0) - 2)) ∧
        ¬ (((-x0) - 2) < 0 ∨ 5 ≤ Int32.toNatClampNeg ((-x0) - 2)) ∧
        K x0 (am_u (am_u I 0 12 x0) 65 (Int32.toNatClampNeg ((-x0) - 2)) ((I 65 (Int32.toNatClampNeg ((-x0) - 2))) + 1))
  else
    if ((-x0) - 1) < 0 then
      K x0 (am_u I 0 12 x0)
    else
      if (Int32.ofNat 5) ≤ ((-x0) - 1) then
        K x0 (am_u I 0 12 x0)
      else
        ¬ (((-x0) - 1) < 0 ∨ 5 ≤ Int32.toNatClampNeg ((-x0) - 1)) ∧
        ¬ (((-x0) - 1) < 0 ∨ 5 ≤ Int32.toNatClampNeg ((-x0) - 1)) ∧
        K x0 (am_u (am_u I 0 12 x0) 65 (Int32.toNatClampNeg ((-x0) - 1)) ((I 65 (Int32.toNatClampNeg ((-x0) - 1))) + 1))
set_option maxRecDepth 100000 in
theorem s_14 {S : am_S} {d : Nat} {N : Nat} {T : Nat → Nat × Nat} {I : am_I} {L : am_J} {r : Nat → Nat → Option Nat} {Q : am_Q} {x0 : Int32} {K : Int32 → am_I → Prop} (hw : w_14 x0 I K) (hK : ∀ (q : Int32) (I1 : am_I), K q I1 → Q (some (.int q)) (N, am_ts T, I1, L, am_rs r)) : am_E S 14 (d + 0) 0 0 0 [.ref 0, .int x0, am_jk] [] (N, am_ts T, I, L, am_rs r) Q := by
  unfold w_14 at hw
  try dsimp only at hw
  refine am_E.run [] 2000 (show (if x0 ≤ (-5) then (if ((-x0) - 2) < 0 then (True ∧ Q (some (.int x0)) (N, am_ts T, (am_u I 0 12 x0), L, am_rs r)) else (if (Int32.ofNat 5) ≤ ((-x0) - 2) then (True ∧ Q (some (.int x0)) (N, am_ts T, (am_u I 0 12 x0), L, am_rs r)) else (if ((-x0) - 2) < 0 ∨ 5 ≤ Int32.toNatClampNeg ((-x0) - 2) then False else (if ((-x0) - 2) < 0 ∨ 5 ≤ Int32.toNatClampNeg ((-x0) - 2) then False else (True ∧ Q (some (.int x0)) (N, am_ts T, (am_u (am_u I 0 12 x0) 65 (Int32.toNatClampNeg ((-x0) - 2)) ((I 65 (Int32.toNatClampNeg ((-x0) - 2))) + 1)), L, am_rs r)))))) else (if ((-x0) - 1) < 0 then (True ∧ Q (some (.int x0)) (N, am_ts T, (am_u I 0 12 x0), L, am_rs r)) else (if (Int32.ofNat 5) ≤ ((-x0) - 1) then (True ∧ Q (some (.int x0)) (N, am_ts T, (am_u I 0 12 x0), L, am_rs r)) else (if ((-x0) - 1) < 0 ∨ 5 ≤ Int32.toNatClampNeg ((-x0) - 1) then False else (if ((-x0) - 1) < 0 ∨ 5 ≤ Int32.toNatClampNeg ((-x0) - 1) then False else (True ∧ Q (some (.int x0)) (N, am_ts T, (am_u (am_u I 0 12 x0) 65 (Int32.toNatClampNeg ((-x0) - 1)) ((I 65 (Int32.toNatClampNeg ((-x0) - 1))) + 1)), L, am_rs r))))))) from ?_)
  by_cases hc : x0 ≤ (-5)
  · rw [if_pos hc] at hw ⊢
    by_cases hc : ((-x0) - 2) < 0
    · rw [if_pos hc] at hw ⊢
      exact ⟨trivial, hK _ _ hw⟩
    · rw [if_neg hc] at hw ⊢
      by_cases hc : (Int32.ofNat 5) ≤ ((-x0) - 2)
      · rw [if_pos hc] at hw ⊢
        exact ⟨trivial, hK _ _ hw⟩
      · rw [if_neg hc] at hw ⊢
        refine am_ifn hw.1 ?_
        replace hw := hw.2
        refine am_ifn hw.1 ?_
        replace hw := hw.2
        exact ⟨trivial, hK _ _ hw⟩
  · rw [if_neg hc] at hw ⊢
    by_cases hc : ((-x0) - 1) < 0
    · rw [if_pos hc] at hw ⊢
      exact ⟨trivial, hK _ _ hw⟩
    · rw [if_neg hc] at hw ⊢
      by_cases hc : (Int32.ofNat 5) ≤ ((-x0) - 1)
      · rw [if_pos hc] at hw ⊢
        exact ⟨trivial, hK _ _ hw⟩
      · rw [if_neg hc] at hw ⊢
        refine am_ifn hw.1 ?_
        replace hw := hw.2
        refine am_ifn hw.1 ?_
        replace hw := hw.2
        exact ⟨trivial, hK _ _ hw⟩
/-- KeyKeepers$Prison.addDoor(II)I -/
def w_15 (x0 : Int32) (x1 : Int32) (I : am_I) (K : Int32 → am_I → Prop) : Prop :=
  if (I 1 2) < 12 then
    ¬ ((I 1 2) < 0 ∨ 12 ≤ Int32.toNatClampNeg (I 1 2)) ∧
    ¬ ((I 1 2) < 0 ∨ 12 ≤ Int32.toNatClampNeg (I 1 2)) ∧
    K (I 1 2) (am_u (am_u (am_u I 2 (Int32.toNatClampNeg (I 1 2)) x0) 3 (Int32.toNatClampNeg (I 1 2)) x1) 1 2 ((I 1 2) + 1))
  else
    K (-1) I
set_option maxRecDepth 100000 in
theorem s_15 {S : am_S} {d : Nat} {N : Nat} {T : Nat → Nat × Nat} {I : am_I} {L : am_J} {r : Nat → Nat → Option Nat} {Q : am_Q} {x0 : Int32} {x1 : Int32} {K : Int32 → am_I → Prop} (hw : w_15 x0 x1 I K) (hK : ∀ (q : Int32) (I1 : am_I), K q I1 → Q (some (.int q)) (N, am_ts T, I1, L, am_rs r)) : am_E S 15 (d + 0) 0 0 0 [.ref 1, .int x0, .int x1] [] (N, am_ts T, I, L, am_rs r) Q := by
  unfold w_15 at hw
  try dsimp only at hw
  refine am_E.run [] 2000 (show (if (I 1 2) < 12 then (if (I 1 2) < 0 ∨ 12 ≤ Int32.toNatClampNeg (I 1 2) then False else (if (I 1 2) < 0 ∨ 12 ≤ Int32.toNatClampNeg (I 1 2) then False else (True ∧ Q (some (.int (I 1 2))) (N, am_ts T, (am_u (am_u (am_u I 2 (Int32.toNatClampNeg (I 1 2)) x0) 3 (Int32.toNatClampNeg (I 1 2)) x1) 1 2 ((I 1 2) + 1)), L, am_rs r)))) else (True ∧ Q (some (.int (-1))) (N, am_ts T, I, L, am_rs r))) from ?_)
  by_cases hc : (I 1 2) < 12
  · rw [if_pos hc] at hw ⊢
    refine am_ifn hw.1 ?_
    replace hw := hw.2
    refine am_ifn hw.1 ?_
    replace hw := hw.2
    exact ⟨trivial, hK _ _ hw⟩
  · rw [if_neg hc] at hw ⊢
    exact ⟨trivial, hK _ _ hw⟩
/-- KeyKeepers.settle(I)I -/
def w_16 (x0 : Int32) (I : am_I) (K : Int32 → am_I → Prop) : Prop :=
  K x0 (am_u (am_u I 0 12 0) 0 10 0)
set_option maxRecDepth 100000 in
theorem s_16 {S : am_S} {d : Nat} {N : Nat} {T : Nat → Nat × Nat} {I : am_I} {L : am_J} {r : Nat → Nat → Option Nat} {Q : am_Q} {x0 : Int32} {K : Int32 → am_I → Prop} (hw : w_16 x0 I K) (hK : ∀ (q : Int32) (I1 : am_I), K q I1 → Q (some (.int q)) (N, am_ts T, I1, L, am_rs r)) : am_E S 16 (d + 0) 0 0 0 [.ref 0, .int x0] [] (N, am_ts T, I, L, am_rs r) Q := by
  unfold w_16 at hw
  try dsimp only at hw
  refine am_E.run [] 2000 (show (True ∧ Q (some (.int x0)) (N, am_ts T, (am_u (am_u I 0 12 0) 0 10 0), L, am_rs r)) from ?_)
  exact ⟨trivial, hK _ _ hw⟩
/-- KeyKeepers.isBit(I)Z -/
def f_18 (x0 : Int32) : Int32 :=
  if x0 = 0 then
    1
  else
    if x0 = 1 then
      1
    else
      0
set_option maxRecDepth 100000 in
theorem s_18 {S : am_S} {d : Nat} {N : Nat} {T : Nat → Nat × Nat} {I : am_I} {L : am_J} {r : Nat → Nat → Option Nat} {Q : am_Q} {x0 : Int32} (hq : Q (some (.int (f_18 x0))) (N, am_ts T, I, L, am_rs r)) : am_E S 18 (d + 0) 0 0 0 [.int x0] [] (N, am_ts T, I, L, am_rs r) Q := by
  unfold f_18 at hq
  try dsimp only at hq
  refine am_E.run [] 2000 (show (if x0 = 0 then (((1 : Int32) = 0 ∨ (1 : Int32) = 1) ∧ Q (some (.int 1)) (N, am_ts T, I, L, am_rs r)) else (if x0 = 1 then (((1 : Int32) = 0 ∨ (1 : Int32) = 1) ∧ Q (some (.int 1)) (N, am_ts T, I, L, am_rs r)) else (((0 : Int32) = 0 ∨ (0 : Int32) = 1) ∧ Q (some (.int 0)) (N, am_ts T, I, L, am_rs r)))) from ?_)
  by_cases hc : x0 = 0
  · rw [if_pos hc] at hq ⊢
    exact ⟨Or.inr rfl, hq⟩
  · rw [if_neg hc] at hq ⊢
    by_cases hc : x0 = 1
    · rw [if_pos hc] at hq ⊢
      exact ⟨Or.inr rfl, hq⟩
    · rw [if_neg hc] at hq ⊢
      exact ⟨Or.inl rfl, hq⟩
theorem b_18 {x0 : Int32} : (f_18 x0) = 0 ∨ (f_18 x0) = 1 := by
  unfold f_18
  (repeat' split) <;> first | exact Or.inl rfl | exact Or.inr rfl
/-- KeyKeepers$Prison.hasDoor(I)Z -/
def f_19 (x0 : Int32) (I : am_I) : Int32 :=
  if x0 < 0 then
    0
  else
    if (I 1 2) ≤ x0 then
      0
    else
      1
set_option maxRecDepth 100000 in
theorem s_19 {S : am_S} {d : Nat} {N : Nat} {T : Nat → Nat × Nat} {I : am_I} {L : am_J} {r : Nat → Nat → Option Nat} {Q : am_Q} {x0 : Int32} (hq : Q (some (.int (f_19 x0 I))) (N, am_ts T, I, L, am_rs r)) : am_E S 19 (d + 0) 0 0 0 [.ref 1, .int x0] [] (N, am_ts T, I, L, am_rs r) Q := by
  unfold f_19 at hq
  try dsimp only at hq
  refine am_E.run [] 2000 (show (if x0 < 0 then (((0 : Int32) = 0 ∨ (0 : Int32) = 1) ∧ Q (some (.int 0)) (N, am_ts T, I, L, am_rs r)) else (if (I 1 2) ≤ x0 then (((0 : Int32) = 0 ∨ (0 : Int32) = 1) ∧ Q (some (.int 0)) (N, am_ts T, I, L, am_rs r)) else (((1 : Int32) = 0 ∨ (1 : Int32) = 1) ∧ Q (some (.int 1)) (N, am_ts T, I, L, am_rs r)))) from ?_)
  by_cases hc : x0 < 0
  · rw [if_pos hc] at hq ⊢
    exact ⟨Or.inl rfl, hq⟩
  · rw [if_neg hc] at hq ⊢
    by_cases hc : (I 1 2) ≤ x0
    · rw [if_pos hc] at hq ⊢
      exact ⟨Or.inl rfl, hq⟩
    · rw [if_neg hc] at hq ⊢
      exact ⟨Or.inr rfl, hq⟩
theorem b_19 {x0 : Int32} {I : am_I} : (f_19 x0 I) = 0 ∨ (f_19 x0 I) = 1 := by
  unfold f_19
  (repeat' split) <;> first | exact Or.inl rfl | exact Or.inr rfl
/-- KeyKeepers.bitOf(II)I -/
def f_20 (x0 : Int32) (x1 : Int32) : Int32 :=
  ((x0 >>> (x1 &&& 31)) &&& 1)
set_option maxRecDepth 100000 in
theorem s_20 {S : am_S} {d : Nat} {N : Nat} {T : Nat → Nat × Nat} {I : am_I} {L : am_J} {r : Nat → Nat → Option Nat} {Q : am_Q} {x0 : Int32} {x1 : Int32} (hq : Q (some (.int (f_20 x0 x1))) (N, am_ts T, I, L, am_rs r)) : am_E S 20 (d + 0) 0 0 0 [.int x0, .int x1] [] (N, am_ts T, I, L, am_rs r) Q := by
  unfold f_20 at hq
  try dsimp only at hq
  refine am_E.run [] 2000 (show (True ∧ Q (some (.int ((x0 >>> (x1 &&& 31)) &&& 1))) (N, am_ts T, I, L, am_rs r)) from ?_)
  exact ⟨trivial, hq⟩
/-- KeyKeepers.withBit(III)I -/
def f_21 (x0 : Int32) (x1 : Int32) (x2 : Int32) : Int32 :=
  if x2 = 1 then
    (x0 ||| (1 <<< (x1 &&& 31)))
  else
    (x0 &&& ((1 <<< (x1 &&& 31)) ^^^ (-1)))
set_option maxRecDepth 100000 in
theorem s_21 {S : am_S} {d : Nat} {N : Nat} {T : Nat → Nat × Nat} {I : am_I} {L : am_J} {r : Nat → Nat → Option Nat} {Q : am_Q} {x0 : Int32} {x1 : Int32} {x2 : Int32} (hq : Q (some (.int (f_21 x0 x1 x2))) (N, am_ts T, I, L, am_rs r)) : am_E S 21 (d + 0) 0 0 0 [.int x0, .int x1, .int x2] [] (N, am_ts T, I, L, am_rs r) Q := by
  unfold f_21 at hq
  try dsimp only at hq
  refine am_E.run [] 2000 (show (if x2 = 1 then (True ∧ Q (some (.int (x0 ||| (1 <<< (x1 &&& 31))))) (N, am_ts T, I, L, am_rs r)) else (True ∧ Q (some (.int (x0 &&& ((1 <<< (x1 &&& 31)) ^^^ (-1))))) (N, am_ts T, I, L, am_rs r))) from ?_)
  by_cases hc : x2 = 1
  · rw [if_pos hc] at hq ⊢
    exact ⟨trivial, hq⟩
  · rw [if_neg hc] at hq ⊢
    exact ⟨trivial, hq⟩
/-- KeyKeepers$Goings.clear()V -/
def w_24 (I : am_I) (K : am_I → Prop) : Prop :=
  K (am_u I 29 0 0)
set_option maxRecDepth 100000 in
theorem s_24 {S : am_S} {d : Nat} {N : Nat} {T : Nat → Nat × Nat} {I : am_I} {L : am_J} {r : Nat → Nat → Option Nat} {Q : am_Q} {K : am_I → Prop} (hw : w_24 I K) (hK : ∀ (I1 : am_I), K I1 → Q (none) (N, am_ts T, I1, L, am_rs r)) : am_E S 24 (d + 0) 0 0 0 [.ref 29] [] (N, am_ts T, I, L, am_rs r) Q := by
  unfold w_24 at hw
  try dsimp only at hw
  refine am_E.run [] 2000 (show (True ∧ Q (none) (N, am_ts T, (am_u I 29 0 0), L, am_rs r)) from ?_)
  exact ⟨trivial, hK _ hw⟩
/-- KeyKeepers$Prison.addPrisoner(III)I -/
def w_25 (x0 : Int32) (x1 : Int32) (x2 : Int32) (I : am_I) (K : Int32 → am_I → Prop) : Prop :=
  if (I 1 10) < 8 then
    ¬ ((I 1 10) < 0 ∨ 8 ≤ Int32.toNatClampNeg (I 1 10)) ∧
    ¬ ((I 1 10) < 0 ∨ 8 ≤ Int32.toNatClampNeg (I 1 10)) ∧
    ¬ ((I 1 10) < 0 ∨ 8 ≤ Int32.toNatClampNeg (I 1 10)) ∧
    ¬ ((I 1 10) < 0 ∨ 8 ≤ Int32.toNatClampNeg (I 1 10)) ∧
    ¬ ((I 1 10) < 0 ∨ 8 ≤ Int32.toNatClampNeg (I 1 10)) ∧
    K (I 1 10) (am_u (am_u (am_u (am_u (am_u (am_u (am_u I 4 (Int32.toNatClampNeg (I 1 10)) x0) 5 (Int32.toNatClampNeg (I 1 10)) x1) 6 (Int32.toNatClampNeg (I 1 10)) x2) 7 (Int32.toNatClampNeg (I 1 10)) 0) 8 (Int32.toNatClampNeg (I 1 10)) 0) 1 9 (f_21 (I 1 9) (I 1 10) 0)) 1 10 ((I 1 10) + 1))
  else
    K (-1) I
set_option maxRecDepth 100000 in
theorem s_25 {S : am_S} {d : Nat} {N : Nat} {T : Nat → Nat × Nat} {I : am_I} {L : am_J} {r : Nat → Nat → Option Nat} {Q : am_Q} {x0 : Int32} {x1 : Int32} {x2 : Int32} {K : Int32 → am_I → Prop} (hw : w_25 x0 x1 x2 I K) (hK : ∀ (q : Int32) (I1 : am_I), K q I1 → Q (some (.int q)) (N, am_ts T, I1, L, am_rs r)) : am_E S 25 (d + 1) 0 0 0 [.ref 1, .int x0, .int x1, .int x2] [] (N, am_ts T, I, L, am_rs r) Q := by
  unfold w_25 at hw
  try dsimp only at hw
  refine am_E.run [71] 2000 (show (if (I 1 10) < 8 then (if (I 1 10) < 0 ∨ 8 ≤ Int32.toNatClampNeg (I 1 10) then False else (if (I 1 10) < 0 ∨ 8 ≤ Int32.toNatClampNeg (I 1 10) then False else (if (I 1 10) < 0 ∨ 8 ≤ Int32.toNatClampNeg (I 1 10) then False else (if (I 1 10) < 0 ∨ 8 ≤ Int32.toNatClampNeg (I 1 10) then False else (if (I 1 10) < 0 ∨ 8 ≤ Int32.toNatClampNeg (I 1 10) then False else (am_E S 25 (d + 1) 0 0 71 [.ref 1, .int x0, .int x1, .int x2] [.int 0, .int (I 1 10), .int (I 1 9), .ref 1] (N, am_ts T, (am_u (am_u (am_u (am_u (am_u I 4 (Int32.toNatClampNeg (I 1 10)) x0) 5 (Int32.toNatClampNeg (I 1 10)) x1) 6 (Int32.toNatClampNeg (I 1 10)) x2) 7 (Int32.toNatClampNeg (I 1 10)) 0) 8 (Int32.toNatClampNeg (I 1 10)) 0), L, am_rs r) Q)))))) else (True ∧ Q (some (.int (-1))) (N, am_ts T, I, L, am_rs r))) from ?_)
  by_cases hc : (I 1 10) < 8
  · rw [if_pos hc] at hw ⊢
    refine am_ifn hw.1 ?_
    replace hw := hw.2
    refine am_ifn hw.1 ?_
    replace hw := hw.2
    refine am_ifn hw.1 ?_
    replace hw := hw.2
    refine am_ifn hw.1 ?_
    replace hw := hw.2
    refine am_ifn hw.1 ?_
    replace hw := hw.2
    refine am_E.go ⟨fun v h9 => v = some (.int (f_21 (I 1 9) (I 1 10) 0)) ∧ h9 = (N, am_ts T, (am_u (am_u (am_u (am_u (am_u I 4 (Int32.toNatClampNeg (I 1 10)) x0) 5 (Int32.toNatClampNeg (I 1 10)) x1) 6 (Int32.toNatClampNeg (I 1 10)) x2) 7 (Int32.toNatClampNeg (I 1 10)) 0) 8 (Int32.toNatClampNeg (I 1 10)) 0), L, am_rs r), s_21 ⟨rfl, rfl⟩, ?_⟩
    intro v h9 hv
    obtain ⟨rfl, rfl⟩ := hv
    refine am_E.run [] 2000 (show (True ∧ Q (some (.int (I 1 10))) (N, am_ts T, (am_u (am_u (am_u (am_u (am_u (am_u (am_u I 4 (Int32.toNatClampNeg (I 1 10)) x0) 5 (Int32.toNatClampNeg (I 1 10)) x1) 6 (Int32.toNatClampNeg (I 1 10)) x2) 7 (Int32.toNatClampNeg (I 1 10)) 0) 8 (Int32.toNatClampNeg (I 1 10)) 0) 1 9 (f_21 (I 1 9) (I 1 10) 0)) 1 10 ((I 1 10) + 1)), L, am_rs r)) from ?_)
    exact ⟨trivial, hK _ _ hw⟩
  · rw [if_neg hc] at hw ⊢
    exact ⟨trivial, hK _ _ hw⟩
/-- KeyKeepers$Prison.hasPrisoner(I)Z -/
def f_27 (x0 : Int32) (I : am_I) : Int32 :=
  if x0 < 0 then
    0
  else
    if (I 1 10) ≤ x0 then
      0
    else
      1
set_option maxRecDepth 100000 in
theorem s_27 {S : am_S} {d : Nat} {N : Nat} {T : Nat → Nat × Nat} {I : am_I} {L : am_J} {r : Nat → Nat → Option Nat} {Q : am_Q} {x0 : Int32} (hq : Q (some (.int (f_27 x0 I))) (N, am_ts T, I, L, am_rs r)) : am_E S 27 (d + 0) 0 0 0 [.ref 1, .int x0] [] (N, am_ts T, I, L, am_rs r) Q := by
  unfold f_27 at hq
  try dsimp only at hq
  refine am_E.run [] 2000 (show (if x0 < 0 then (((0 : Int32) = 0 ∨ (0 : Int32) = 1) ∧ Q (some (.int 0)) (N, am_ts T, I, L, am_rs r)) else (if (I 1 10) ≤ x0 then (((0 : Int32) = 0 ∨ (0 : Int32) = 1) ∧ Q (some (.int 0)) (N, am_ts T, I, L, am_rs r)) else (((1 : Int32) = 0 ∨ (1 : Int32) = 1) ∧ Q (some (.int 1)) (N, am_ts T, I, L, am_rs r)))) from ?_)
  by_cases hc : x0 < 0
  · rw [if_pos hc] at hq ⊢
    exact ⟨Or.inl rfl, hq⟩
  · rw [if_neg hc] at hq ⊢
    by_cases hc : (I 1 10) ≤ x0
    · rw [if_pos hc] at hq ⊢
      exact ⟨Or.inl rfl, hq⟩
    · rw [if_neg hc] at hq ⊢
      exact ⟨Or.inr rfl, hq⟩
theorem b_27 {x0 : Int32} {I : am_I} : (f_27 x0 I) = 0 ∨ (f_27 x0 I) = 1 := by
  unfold f_27
  (repeat' split) <;> first | exact Or.inl rfl | exact Or.inr rfl
/-- KeyKeepers.key(III)I -/
def w_28 (x0 : Int32) (x1 : Int32) (x2 : Int32) (I : am_I) (K : Int32 → am_I → Prop) : Prop :=
  if (f_18 x2) = 0 then
    w_14 (-1) I (fun q8 I9 =>
      K q8 I9)
  else
    if (f_27 x0 I) = 0 then
      w_14 (-2) I (fun q1 I2 =>
        K q1 I2)
    else
      if (f_19 x1 I) = 0 then
        w_14 (-2) I (fun q6 I7 =>
          K q6 I7)
      else
        ¬ (x0 < 0 ∨ 8 ≤ Int32.toNatClampNeg x0) ∧
        ¬ (x0 < 0 ∨ 8 ≤ Int32.toNatClampNeg x0) ∧
        ¬ (x0 < 0 ∨ 8 ≤ Int32.toNatClampNeg x0) ∧
        w_24 (am_u I 7 (Int32.toNatClampNeg x0) (f_21 (I 7 (Int32.toNatClampNeg x0)) x1 x2)) (fun I3 =>
          w_16 (f_20 (I 7 (Int32.toNatClampNeg x0)) x1) I3 (fun q4 I5 =>
            K q4 I5))
set_option maxRecDepth 100000 in
theorem s_28 {S : am_S} {d : Nat} {N : Nat} {T : Nat → Nat × Nat} {I : am_I} {L : am_J} {r : Nat → Nat → Option Nat} {Q : am_Q} {x0 : Int32} {x1 : Int32} {x2 : Int32} {K : Int32 → am_I → Prop} (hw : w_28 x0 x1 x2 I K) (hK : ∀ (q : Int32) (I1 : am_I), K q I1 → Q (some (.int q)) (N, am_ts T, I1, L, am_rs r)) : am_E S 28 (d + 1) 0 0 0 [.ref 0, .int x0, .int x1, .int x2, am_jk] [] (N, am_ts T, I, L, am_rs r) Q := by
  unfold w_28 at hw
  try dsimp only at hw
  refine am_E.run [1] 2000 (show (am_E S 28 (d + 1) 0 0 1 [.ref 0, .int x0, .int x1, .int x2, am_jk] [.int x2] (N, am_ts T, I, L, am_rs r) Q) from ?_)
  refine am_E.go ⟨fun v h9 => v = some (.int (f_18 x2)) ∧ h9 = (N, am_ts T, I, L, am_rs r), s_18 ⟨rfl, rfl⟩, ?_⟩
  intro v h9 hv
  obtain ⟨rfl, rfl⟩ := hv
  refine am_E.run [9, 18] 2000 (show (if (f_18 x2) = 0 then (am_E S 28 (d + 1) 0 0 9 [.ref 0, .int x0, .int x1, .int x2, am_jk] [.int (-1), .ref 0] (N, am_ts T, I, L, am_rs r) Q) else (am_E S 28 (d + 1) 0 0 18 [.ref 0, .int x0, .int x1, .int x2, am_jk] [.int x0, .ref 1] (N, am_ts T, I, L, am_rs r) Q)) from ?_)
  by_cases hc : (f_18 x2) = 0
  · rw [if_pos hc] at hw ⊢
    refine am_E.go ⟨am_ki_I N T L r _, s_14 hw (fun q8 I9 hk => ⟨q8, I9, rfl, rfl, hk⟩), ?_⟩
    intro v h9 hv
    obtain ⟨q8, I9, rfl, rfl, hw⟩ := hv
    try dsimp only at hw
    refine am_E.run [] 2000 (show (True ∧ Q (some (.int q8)) (N, am_ts T, I9, L, am_rs r)) from ?_)
    exact ⟨trivial, hK _ _ hw⟩
  · rw [if_neg hc] at hw ⊢
    refine am_E.go ⟨fun v h9 => v = some (.int (f_27 x0 I)) ∧ h9 = (N, am_ts T, I, L, am_rs r), s_27 ⟨rfl, rfl⟩, ?_⟩
    intro v h9 hv
    obtain ⟨rfl, rfl⟩ := hv
    refine am_E.run [29, 38] 2000 (show (if (f_27 x0 I) = 0 then (am_E S 28 (d + 1) 0 0 38 [.ref 0, .int x0, .int x1, .int x2, am_jk] [.int (-2), .ref 0] (N, am_ts T, I, L, am_rs r) Q) else (am_E S 28 (d + 1) 0 0 29 [.ref 0, .int x0, .int x1, .int x2, am_jk] [.int x1, .ref 1] (N, am_ts T, I, L, am_rs r) Q)) from ?_)
    by_cases hc : (f_27 x0 I) = 0
    · rw [if_pos hc] at hw ⊢
      refine am_E.go ⟨am_ki_I N T L r _, s_14 hw (fun q1 I2 hk => ⟨q1, I2, rfl, rfl, hk⟩), ?_⟩
      intro v h9 hv
      obtain ⟨q1, I2, rfl, rfl, hw⟩ := hv
      try dsimp only at hw
      refine am_E.run [] 2000 (show (True ∧ Q (some (.int q1)) (N, am_ts T, I2, L, am_rs r)) from ?_)
      exact ⟨trivial, hK _ _ hw⟩
    · rw [if_neg hc] at hw ⊢
      refine am_E.go ⟨fun v h9 => v = some (.int (f_19 x1 I)) ∧ h9 = (N, am_ts T, I, L, am_rs r), s_19 ⟨rfl, rfl⟩, ?_⟩
      intro v h9 hv
      obtain ⟨rfl, rfl⟩ := hv
      refine am_E.run [38, 52] 2000 (show (if (f_19 x1 I) = 0 then (am_E S 28 (d + 1) 0 0 38 [.ref 0, .int x0, .int x1, .int x2, am_jk] [.int (-2), .ref 0] (N, am_ts T, I, L, am_rs r) Q) else (if x0 < 0 ∨ 8 ≤ Int32.toNatClampNeg x0 then False else (am_E S 28 (d + 1) 0 0 52 [.ref 0, .int x0, .int x1, .int x2, am_jk] [.int x1, .int (I 7 (Int32.toNatClampNeg x0))] (N, am_ts T, I, L, am_rs r) Q))) from ?_)
      by_cases hc : (f_19 x1 I) = 0
      · rw [if_pos hc] at hw ⊢
        refine am_E.go ⟨am_ki_I N T L r _, s_14 hw (fun q6 I7 hk => ⟨q6, I7, rfl, rfl, hk⟩), ?_⟩
        intro v h9 hv
        obtain ⟨q6, I7, rfl, rfl, hw⟩ := hv
        try dsimp only at hw
        refine am_E.run [] 2000 (show (True ∧ Q (some (.int q6)) (N, am_ts T, I7, L, am_rs r)) from ?_)
        exact ⟨trivial, hK _ _ hw⟩
      · rw [if_neg hc] at hw ⊢
        refine am_ifn hw.1 ?_
        replace hw := hw.2
        refine am_E.go ⟨fun v h9 => v = some (.int (f_20 (I 7 (Int32.toNatClampNeg x0)) x1)) ∧ h9 = (N, am_ts T, I, L, am_rs r), s_20 ⟨rfl, rfl⟩, ?_⟩
        intro v h9 hv
        obtain ⟨rfl, rfl⟩ := hv
        refine am_E.run [76] 2000 (show (if x0 < 0 ∨ 8 ≤ Int32.toNatClampNeg x0 then False else (am_E S 28 (d + 1) 0 0 76 [.ref 0, .int x0, .int x1, .int x2, .int (f_20 (I 7 (Int32.toNatClampNeg x0)) x1)] [.int x2, .int x1, .int (I 7 (Int32.toNatClampNeg x0)), .int x0, .ref 7] (N, am_ts T, I, L, am_rs r) Q)) from ?_)
        refine am_ifn hw.1 ?_
        replace hw := hw.2
        refine am_E.go ⟨fun v h9 => v = some (.int (f_21 (I 7 (Int32.toNatClampNeg x0)) x1 x2)) ∧ h9 = (N, am_ts T, I, L, am_rs r), s_21 ⟨rfl, rfl⟩, ?_⟩
        intro v h9 hv
        obtain ⟨rfl, rfl⟩ := hv
        refine am_E.run [84] 2000 (show (if x0 < 0 ∨ 8 ≤ Int32.toNatClampNeg x0 then False else (am_E S 28 (d + 1) 0 0 84 [.ref 0, .int x0, .int x1, .int x2, .int (f_20 (I 7 (Int32.toNatClampNeg x0)) x1)] [.ref 29] (N, am_ts T, (am_u I 7 (Int32.toNatClampNeg x0) (f_21 (I 7 (Int32.toNatClampNeg x0)) x1 x2)), L, am_rs r) Q)) from ?_)
        refine am_ifn hw.1 ?_
        replace hw := hw.2
        refine am_E.go ⟨am_kv_I N T L r _, s_24 hw (fun I3 hk => ⟨I3, rfl, rfl, hk⟩), ?_⟩
        intro v h9 hv
        obtain ⟨I3, rfl, rfl, hw⟩ := hv
        try dsimp only at hw
        refine am_E.run [90] 2000 (show (am_E S 28 (d + 1) 0 0 90 [.ref 0, .int x0, .int x1, .int x2, .int (f_20 (I 7 (Int32.toNatClampNeg x0)) x1)] [.int (f_20 (I 7 (Int32.toNatClampNeg x0)) x1), .ref 0] (N, am_ts T, I3, L, am_rs r) Q) from ?_)
        refine am_E.go ⟨am_ki_I N T L r _, s_16 hw (fun q4 I5 hk => ⟨q4, I5, rfl, rfl, hk⟩), ?_⟩
        intro v h9 hv
        obtain ⟨q4, I5, rfl, rfl, hw⟩ := hv
        try dsimp only at hw
        refine am_E.run [] 2000 (show (True ∧ Q (some (.int q4)) (N, am_ts T, I5, L, am_rs r)) from ?_)
        exact ⟨trivial, hK _ _ hw⟩
/-- KeyKeepers.trust(III)I -/
def w_29 (x0 : Int32) (x1 : Int32) (x2 : Int32) (I : am_I) (K : Int32 → am_I → Prop) : Prop :=
  if (f_18 x2) = 0 then
    w_14 (-1) I (fun q1 I2 =>
      K q1 I2)
  else
    if x0 = x1 then
      w_14 (-1) I (fun q9 I10 =>
        K q9 I10)
    else
      if (f_27 x0 I) = 0 then
        w_14 (-2) I (fun q3 I4 =>
          K q3 I4)
      else
        if (f_27 x1 I) = 0 then
          w_14 (-2) I (fun q7 I8 =>
            K q7 I8)
        else
          ¬ (x0 < 0 ∨ 8 ≤ Int32.toNatClampNeg x0) ∧
          ¬ (x0 < 0 ∨ 8 ≤ Int32.toNatClampNeg x0) ∧
          ¬ (x0 < 0 ∨ 8 ≤ Int32.toNatClampNeg x0) ∧
          w_16 (f_20 (I 8 (Int32.toNatClampNeg x0)) x1) (am_u I 8 (Int32.toNatClampNeg x0) (f_21 (I 8 (Int32.toNatClampNeg x0)) x1 x2)) (fun q5 I6 =>
            K q5 I6)
set_option maxRecDepth 100000 in
theorem s_29 {S : am_S} {d : Nat} {N : Nat} {T : Nat → Nat × Nat} {I : am_I} {L : am_J} {r : Nat → Nat → Option Nat} {Q : am_Q} {x0 : Int32} {x1 : Int32} {x2 : Int32} {K : Int32 → am_I → Prop} (hw : w_29 x0 x1 x2 I K) (hK : ∀ (q : Int32) (I1 : am_I), K q I1 → Q (some (.int q)) (N, am_ts T, I1, L, am_rs r)) : am_E S 29 (d + 1) 0 0 0 [.ref 0, .int x0, .int x1, .int x2, am_jk] [] (N, am_ts T, I, L, am_rs r) Q := by
  unfold w_29 at hw
  try dsimp only at hw
  refine am_E.run [1] 2000 (show (am_E S 29 (d + 1) 0 0 1 [.ref 0, .int x0, .int x1, .int x2, am_jk] [.int x2] (N, am_ts T, I, L, am_rs r) Q) from ?_)
  refine am_E.go ⟨fun v h9 => v = some (.int (f_18 x2)) ∧ h9 = (N, am_ts T, I, L, am_rs r), s_18 ⟨rfl, rfl⟩, ?_⟩
  intro v h9 hv
  obtain ⟨rfl, rfl⟩ := hv
  refine am_E.run [14, 23] 2000 (show (if (f_18 x2) = 0 then (am_E S 29 (d + 1) 0 0 14 [.ref 0, .int x0, .int x1, .int x2, am_jk] [.int (-1), .ref 0] (N, am_ts T, I, L, am_rs r) Q) else (if x0 = x1 then (am_E S 29 (d + 1) 0 0 14 [.ref 0, .int x0, .int x1, .int x2, am_jk] [.int (-1), .ref 0] (N, am_ts T, I, L, am_rs r) Q) else (am_E S 29 (d + 1) 0 0 23 [.ref 0, .int x0, .int x1, .int x2, am_jk] [.int x0, .ref 1] (N, am_ts T, I, L, am_rs r) Q))) from ?_)
  by_cases hc : (f_18 x2) = 0
  · rw [if_pos hc] at hw ⊢
    refine am_E.go ⟨am_ki_I N T L r _, s_14 hw (fun q1 I2 hk => ⟨q1, I2, rfl, rfl, hk⟩), ?_⟩
    intro v h9 hv
    obtain ⟨q1, I2, rfl, rfl, hw⟩ := hv
    try dsimp only at hw
    refine am_E.run [] 2000 (show (True ∧ Q (some (.int q1)) (N, am_ts T, I2, L, am_rs r)) from ?_)
    exact ⟨trivial, hK _ _ hw⟩
  · rw [if_neg hc] at hw ⊢
    by_cases hc : x0 = x1
    · rw [if_pos hc] at hw ⊢
      refine am_E.go ⟨am_ki_I N T L r _, s_14 hw (fun q9 I10 hk => ⟨q9, I10, rfl, rfl, hk⟩), ?_⟩
      intro v h9 hv
      obtain ⟨q9, I10, rfl, rfl, hw⟩ := hv
      try dsimp only at hw
      refine am_E.run [] 2000 (show (True ∧ Q (some (.int q9)) (N, am_ts T, I10, L, am_rs r)) from ?_)
      exact ⟨trivial, hK _ _ hw⟩
    · rw [if_neg hc] at hw ⊢
      refine am_E.go ⟨fun v h9 => v = some (.int (f_27 x0 I)) ∧ h9 = (N, am_ts T, I, L, am_rs r), s_27 ⟨rfl, rfl⟩, ?_⟩
      intro v h9 hv
      obtain ⟨rfl, rfl⟩ := hv
      refine am_E.run [34, 43] 2000 (show (if (f_27 x0 I) = 0 then (am_E S 29 (d + 1) 0 0 43 [.ref 0, .int x0, .int x1, .int x2, am_jk] [.int (-2), .ref 0] (N, am_ts T, I, L, am_rs r) Q) else (am_E S 29 (d + 1) 0 0 34 [.ref 0, .int x0, .int x1, .int x2, am_jk] [.int x1, .ref 1] (N, am_ts T, I, L, am_rs r) Q)) from ?_)
      by_cases hc : (f_27 x0 I) = 0
      · rw [if_pos hc] at hw ⊢
        refine am_E.go ⟨am_ki_I N T L r _, s_14 hw (fun q3 I4 hk => ⟨q3, I4, rfl, rfl, hk⟩), ?_⟩
        intro v h9 hv
        obtain ⟨q3, I4, rfl, rfl, hw⟩ := hv
        try dsimp only at hw
        refine am_E.run [] 2000 (show (True ∧ Q (some (.int q3)) (N, am_ts T, I4, L, am_rs r)) from ?_)
        exact ⟨trivial, hK _ _ hw⟩
      · rw [if_neg hc] at hw ⊢
        refine am_E.go ⟨fun v h9 => v = some (.int (f_27 x1 I)) ∧ h9 = (N, am_ts T, I, L, am_rs r), s_27 ⟨rfl, rfl⟩, ?_⟩
        intro v h9 hv
        obtain ⟨rfl, rfl⟩ := hv
        refine am_E.run [43, 57] 2000 (show (if (f_27 x1 I) = 0 then (am_E S 29 (d + 1) 0 0 43 [.ref 0, .int x0, .int x1, .int x2, am_jk] [.int (-2), .ref 0] (N, am_ts T, I, L, am_rs r) Q) else (if x0 < 0 ∨ 8 ≤ Int32.toNatClampNeg x0 then False else (am_E S 29 (d + 1) 0 0 57 [.ref 0, .int x0, .int x1, .int x2, am_jk] [.int x1, .int (I 8 (Int32.toNatClampNeg x0))] (N, am_ts T, I, L, am_rs r) Q))) from ?_)
        by_cases hc : (f_27 x1 I) = 0
        · rw [if_pos hc] at hw ⊢
          refine am_E.go ⟨am_ki_I N T L r _, s_14 hw (fun q7 I8 hk => ⟨q7, I8, rfl, rfl, hk⟩), ?_⟩
          intro v h9 hv
          obtain ⟨q7, I8, rfl, rfl, hw⟩ := hv
          try dsimp only at hw
          refine am_E.run [] 2000 (show (True ∧ Q (some (.int q7)) (N, am_ts T, I8, L, am_rs r)) from ?_)
          exact ⟨trivial, hK _ _ hw⟩
        · rw [if_neg hc] at hw ⊢
          refine am_ifn hw.1 ?_
          replace hw := hw.2
          refine am_E.go ⟨fun v h9 => v = some (.int (f_20 (I 8 (Int32.toNatClampNeg x0)) x1)) ∧ h9 = (N, am_ts T, I, L, am_rs r), s_20 ⟨rfl, rfl⟩, ?_⟩
          intro v h9 hv
          obtain ⟨rfl, rfl⟩ := hv
          refine am_E.run [81] 2000 (show (if x0 < 0 ∨ 8 ≤ Int32.toNatClampNeg x0 then False else (am_E S 29 (d + 1) 0 0 81 [.ref 0, .int x0, .int x1, .int x2, .int (f_20 (I 8 (Int32.toNatClampNeg x0)) x1)] [.int x2, .int x1, .int (I 8 (Int32.toNatClampNeg x0)), .int x0, .ref 8] (N, am_ts T, I, L, am_rs r) Q)) from ?_)
          refine am_ifn hw.1 ?_
          replace hw := hw.2
          refine am_E.go ⟨fun v h9 => v = some (.int (f_21 (I 8 (Int32.toNatClampNeg x0)) x1 x2)) ∧ h9 = (N, am_ts T, I, L, am_rs r), s_21 ⟨rfl, rfl⟩, ?_⟩
          intro v h9 hv
          obtain ⟨rfl, rfl⟩ := hv
          refine am_E.run [88] 2000 (show (if x0 < 0 ∨ 8 ≤ Int32.toNatClampNeg x0 then False else (am_E S 29 (d + 1) 0 0 88 [.ref 0, .int x0, .int x1, .int x2, .int (f_20 (I 8 (Int32.toNatClampNeg x0)) x1)] [.int (f_20 (I 8 (Int32.toNatClampNeg x0)) x1), .ref 0] (N, am_ts T, (am_u I 8 (Int32.toNatClampNeg x0) (f_21 (I 8 (Int32.toNatClampNeg x0)) x1 x2)), L, am_rs r) Q)) from ?_)
          refine am_ifn hw.1 ?_
          replace hw := hw.2
          refine am_E.go ⟨am_ki_I N T L r _, s_16 hw (fun q5 I6 hk => ⟨q5, I6, rfl, rfl, hk⟩), ?_⟩
          intro v h9 hv
          obtain ⟨q5, I6, rfl, rfl, hw⟩ := hv
          try dsimp only at hw
          refine am_E.run [] 2000 (show (True ∧ Q (some (.int q5)) (N, am_ts T, I6, L, am_rs r)) from ?_)
          exact ⟨trivial, hK _ _ hw⟩
/-- KeyKeepers.vote(II)I -/
def w_30 (x0 : Int32) (x1 : Int32) (I : am_I) (K : Int32 → am_I → Prop) : Prop :=
  if (f_18 x1) = 0 then
    w_14 (-1) I (fun q5 I6 =>
      K q5 I6)
  else
    if (f_27 x0 I) = 0 then
      w_14 (-2) I (fun q3 I4 =>
        K q3 I4)
    else
      w_16 (f_20 (I 1 9) x0) (am_u I 1 9 (f_21 (I 1 9) x0 x1)) (fun q1 I2 =>
        K q1 I2)
set_option maxRecDepth 100000 in
theorem s_30 {S : am_S} {d : Nat} {N : Nat} {T : Nat → Nat × Nat} {I : am_I} {L : am_J} {r : Nat → Nat → Option Nat} {Q : am_Q} {x0 : Int32} {x1 : Int32} {K : Int32 → am_I → Prop} (hw : w_30 x0 x1 I K) (hK : ∀ (q : Int32) (I1 : am_I), K q I1 → Q (some (.int q)) (N, am_ts T, I1, L, am_rs r)) : am_E S 30 (d + 1) 0 0 0 [.ref 0, .int x0, .int x1, am_jk] [] (N, am_ts T, I, L, am_rs r) Q := by
  unfold w_30 at hw
  try dsimp only at hw
  refine am_E.run [1] 2000 (show (am_E S 30 (d + 1) 0 0 1 [.ref 0, .int x0, .int x1, am_jk] [.int x1] (N, am_ts T, I, L, am_rs r) Q) from ?_)
  refine am_E.go ⟨fun v h9 => v = some (.int (f_18 x1)) ∧ h9 = (N, am_ts T, I, L, am_rs r), s_18 ⟨rfl, rfl⟩, ?_⟩
  intro v h9 hv
  obtain ⟨rfl, rfl⟩ := hv
  refine am_E.run [9, 18] 2000 (show (if (f_18 x1) = 0 then (am_E S 30 (d + 1) 0 0 9 [.ref 0, .int x0, .int x1, am_jk] [.int (-1), .ref 0] (N, am_ts T, I, L, am_rs r) Q) else (am_E S 30 (d + 1) 0 0 18 [.ref 0, .int x0, .int x1, am_jk] [.int x0, .ref 1] (N, am_ts T, I, L, am_rs r) Q)) from ?_)
  by_cases hc : (f_18 x1) = 0
  · rw [if_pos hc] at hw ⊢
    refine am_E.go ⟨am_ki_I N T L r _, s_14 hw (fun q5 I6 hk => ⟨q5, I6, rfl, rfl, hk⟩), ?_⟩
    intro v h9 hv
    obtain ⟨q5, I6, rfl, rfl, hw⟩ := hv
    try dsimp only at hw
    refine am_E.run [] 2000 (show (True ∧ Q (some (.int q5)) (N, am_ts T, I6, L, am_rs r)) from ?_)
    exact ⟨trivial, hK _ _ hw⟩
  · rw [if_neg hc] at hw ⊢
    refine am_E.go ⟨fun v h9 => v = some (.int (f_27 x0 I)) ∧ h9 = (N, am_ts T, I, L, am_rs r), s_27 ⟨rfl, rfl⟩, ?_⟩
    intro v h9 hv
    obtain ⟨rfl, rfl⟩ := hv
    refine am_E.run [27, 39] 2000 (show (if (f_27 x0 I) = 0 then (am_E S 30 (d + 1) 0 0 27 [.ref 0, .int x0, .int x1, am_jk] [.int (-2), .ref 0] (N, am_ts T, I, L, am_rs r) Q) else (am_E S 30 (d + 1) 0 0 39 [.ref 0, .int x0, .int x1, am_jk] [.int x0, .int (I 1 9)] (N, am_ts T, I, L, am_rs r) Q)) from ?_)
    by_cases hc : (f_27 x0 I) = 0
    · rw [if_pos hc] at hw ⊢
      refine am_E.go ⟨am_ki_I N T L r _, s_14 hw (fun q3 I4 hk => ⟨q3, I4, rfl, rfl, hk⟩), ?_⟩
      intro v h9 hv
      obtain ⟨q3, I4, rfl, rfl, hw⟩ := hv
      try dsimp only at hw
      refine am_E.run [] 2000 (show (True ∧ Q (some (.int q3)) (N, am_ts T, I4, L, am_rs r)) from ?_)
      exact ⟨trivial, hK _ _ hw⟩
    · rw [if_neg hc] at hw ⊢
      refine am_E.go ⟨fun v h9 => v = some (.int (f_20 (I 1 9) x0)) ∧ h9 = (N, am_ts T, I, L, am_rs r), s_20 ⟨rfl, rfl⟩, ?_⟩
      intro v h9 hv
      obtain ⟨rfl, rfl⟩ := hv
      refine am_E.run [56] 2000 (show (am_E S 30 (d + 1) 0 0 56 [.ref 0, .int x0, .int x1, .int (f_20 (I 1 9) x0)] [.int x1, .int x0, .int (I 1 9), .ref 1] (N, am_ts T, I, L, am_rs r) Q) from ?_)
      refine am_E.go ⟨fun v h9 => v = some (.int (f_21 (I 1 9) x0 x1)) ∧ h9 = (N, am_ts T, I, L, am_rs r), s_21 ⟨rfl, rfl⟩, ?_⟩
      intro v h9 hv
      obtain ⟨rfl, rfl⟩ := hv
      refine am_E.run [64] 2000 (show (am_E S 30 (d + 1) 0 0 64 [.ref 0, .int x0, .int x1, .int (f_20 (I 1 9) x0)] [.int (f_20 (I 1 9) x0), .ref 0] (N, am_ts T, (am_u I 1 9 (f_21 (I 1 9) x0 x1)), L, am_rs r) Q) from ?_)
      refine am_E.go ⟨am_ki_I N T L r _, s_16 hw (fun q1 I2 hk => ⟨q1, I2, rfl, rfl, hk⟩), ?_⟩
      intro v h9 hv
      obtain ⟨q1, I2, rfl, rfl, hw⟩ := hv
      try dsimp only at hw
      refine am_E.run [] 2000 (show (True ∧ Q (some (.int q1)) (N, am_ts T, I2, L, am_rs r)) from ?_)
      exact ⟨trivial, hK _ _ hw⟩
