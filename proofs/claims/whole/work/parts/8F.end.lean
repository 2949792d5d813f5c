/-! THE OWED STATEMENT -/
theorem i_vc : Claimed_1_1 ∧ Claimed_1_2 := law_vc math_ok
