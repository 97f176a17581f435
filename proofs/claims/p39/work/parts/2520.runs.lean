/-! The check of the law, in ranges. -/
theorem zyr_348_0 : zyBr 14 0 250 (zMt 348) (zTt 348) = true := by decide +kernel
theorem zyr_348_250 : zyBr 14 250 250 (zMt 348) (zTt 348) = true := by decide +kernel
theorem zyr_348_500 : zyBr 14 500 250 (zMt 348) (zTt 348) = true := by decide +kernel
