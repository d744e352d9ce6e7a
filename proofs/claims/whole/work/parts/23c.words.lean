/-! tokens: the class's words -/
def wsL : Nat := (am_pe (0, fun _ => 0) 4).1
def wsC (i : Nat) : Nat := Int32.toNatClampNeg (UInt32.toInt32 (Int32.toUInt32 (((am_pe (0, fun _ => 0) 4).2 i) &&& 255) % 65536))
theorem ws_ok : ∀ i, i < wsL → wsC i < 128 ∧ UInt32.toInt32 (Int32.toUInt32 (((am_pe (0, fun _ => 0) 4).2 i) &&& 255) % 65536) = nI (wsC i) := by decide +kernel
theorem wsL_le : wsL ≤ 400 := by decide +kernel
theorem nar_c : ∀ c, c < 128 → narrow .char (.int (nI c)) = .int (nI c) := by decide +kernel
theorem q48 {i : Nat} {K : Int32 → Prop} (h : i < wsL) (hK : K (nI (wsC i))) : w_48 (nI i) K := by
  obtain ⟨c1, c2⟩ := ws_ok i h
  have wl := wsL_le
  unfold w_48
  refine ⟨by decide, ?_⟩
  unfold w_50 w_51 w_52
  refine ⟨nI_pos (by omega), (nb_lt (a := i) (b := wsL) (by omega) (by omega)).mpr h, nb_gd (show i < (am_pe (0, fun _ => 0) 4).1 from h) (Nat.lt_of_le_of_lt wl (by decide)), ?_⟩
  rw [nI_clamp (by omega : i < 2 ^ 31), c2]
  exact ⟨nar_c _ c1, nar_c _ c1, hK⟩
