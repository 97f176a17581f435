/-! The check of the law, in ranges. -/
theorem zyr_341_2500 : zyBr 14 2500 125 (zMt 341) (zTt 341) = true := by decide +kernel
theorem zyb_341 : zyB 14 2501 (zMt 341) (zTt 341) = true := by
  refine zyB_of (by decide +kernel) fun pc hp => ?_
  by_cases h0 : pc < 250
  · exact zyBr_at zyr_341_0 (by omega) (by omega)
  by_cases h250 : pc < 500
  · exact zyBr_at zyr_341_250 (by omega) (by omega)
  by_cases h500 : pc < 750
  · exact zyBr_at zyr_341_500 (by omega) (by omega)
  by_cases h750 : pc < 1000
  · exact zyBr_at zyr_341_750 (by omega) (by omega)
  by_cases h1000 : pc < 1250
  · exact zyBr_at zyr_341_1000 (by omega) (by omega)
  by_cases h1250 : pc < 1375
  · exact zyBr_at zyr_341_1250 (by omega) (by omega)
  by_cases h1375 : pc < 1500
  · exact zyBr_at zyr_341_1375 (by omega) (by omega)
  by_cases h1500 : pc < 1625
  · exact zyBr_at zyr_341_1500 (by omega) (by omega)
  by_cases h1625 : pc < 1750
  · exact zyBr_at zyr_341_1625 (by omega) (by omega)
  by_cases h1750 : pc < 1875
  · exact zyBr_at zyr_341_1750 (by omega) (by omega)
  by_cases h1875 : pc < 2000
  · exact zyBr_at zyr_341_1875 (by omega) (by omega)
  by_cases h2000 : pc < 2125
  · exact zyBr_at zyr_341_2000 (by omega) (by omega)
  by_cases h2125 : pc < 2250
  · exact zyBr_at zyr_341_2125 (by omega) (by omega)
  by_cases h2250 : pc < 2375
  · exact zyBr_at zyr_341_2250 (by omega) (by omega)
  by_cases h2375 : pc < 2500
  · exact zyBr_at zyr_341_2375 (by omega) (by omega)
  exact zyBr_at zyr_341_2500 (by omega) (by omega)
theorem zyk_341 : zyok zTt zMt 341 := zyB_ok zyb_341 fun pc h => (show (bif Nat.blt pc 2501 then _ else zNop) = zNop from zTN h)
