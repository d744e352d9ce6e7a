/-! the owed statement -/
theorem i_vc : Claimed_1_1 ∧ Claimed_1_2 := whole_of (fun _ _ _ _ _ h => o_12 h) (fun _ _ _ _ _ h => o_13 h)
