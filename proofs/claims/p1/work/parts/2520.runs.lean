/-! The check of the law, in ranges. -/
theorem zyr_341_0 : zyBr 14 0 250 (zMt 341) (zTt 341) = true := by decide +kernel
theorem zyr_341_250 : zyBr 14 250 250 (zMt 341) (zTt 341) = true := by decide +kernel
theorem zyr_341_500 : zyBr 14 500 250 (zMt 341) (zTt 341) = true := by decide +kernel
