/-! THE LAW, 6: what is owed -/
theorem i_vc : Claimed_1_1 ∧ Claimed_1_2 := i_of mWhole
