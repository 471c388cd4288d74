/-! the claim -/
theorem i_vc : Claimed_1_1 ∧ Claimed_1_2 := xx_claim xx_all
