/-! The check of the law, in ranges. -/
theorem zyr_348_750 : zyBr 14 750 250 (zMt 348) (zTt 348) = true := by decide +kernel
theorem zyb_348 : zyB 14 888 (zMt 348) (zTt 348) = true := by
  refine zyB_of (by decide +kernel) fun pc hp => ?_
  by_cases h0 : pc < 250
  · exact zyBr_at zyr_348_0 (by omega) (by omega)
  by_cases h250 : pc < 500
  · exact zyBr_at zyr_348_250 (by omega) (by omega)
  by_cases h500 : pc < 750
  · exact zyBr_at zyr_348_500 (by omega) (by omega)
  exact zyBr_at zyr_348_750 (by omega) (by omega)
theorem zyk_348 : zyok zTt zMt 348 := zyB_ok zyb_348 fun pc h => (show (bif Nat.blt pc 888 then _ else zNop) = zNop from zTN h)
