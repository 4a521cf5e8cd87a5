/-! THE OWED STATEMENT. -/
section
theorem i_vc : Claimed_1_1 ∧ Claimed_1_2 := claim_of mtabs_ok law_ok
end
