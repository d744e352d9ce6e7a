/-! tokens: splitTape -/
theorem q40 {I : am_I} {b : Nat → Nat} {z f : Nat} {R : List (Nat × Nat)} {K : am_I → Prop} (hf : 0 + f = 400) (hR : R = tls b z f 0) (h : BY I b z) (hK : ∀ G, (∀ c, c ≠ 21 → c ≠ 22 → G c = I c) → STk2 G (R ++ [(z, 3000000)]) → R.length ≤ 400 → K G) : w_40 I K := by
  unfold w_40
  refine ⟨f + 1, ?_⟩
  show lw_40_6 (f + 1) (nI ([] : List (Nat × Nat)).length) (nI 0) (nI 0) I _
  refine l40 (R := R) h (fun u v G g st hl => ?_) f 0 0 [] I hf (Nat.le_refl _) (Nat.le_refl _) (fun _ _ _ => rfl) (fun k hk => absurd hk (by simp)) (Nat.zero_le _) (by rw [hR]; rfl)
  refine ⟨nb_gd (by omega) (by decide), nb_gd (by omega) (by decide), ?_⟩
  rw [nI_clamp (by omega : R.length < 2 ^ 31), g 14 (by decide) (by decide), h.2.1]
  refine hK _ (fun c c1 c2 => ?_) (STk2_s (s := z) (t := 3000000) st) hl
  rw [uu_h c1, uu_h c2]; exact g c c1 c2
