/-! The check of the law, in ranges. -/
theorem zyr_341_750 : zyBr 14 750 250 (zMt 341) (zTt 341) = true := by decide +kernel
theorem zyr_341_1000 : zyBr 14 1000 250 (zMt 341) (zTt 341) = true := by decide +kernel
