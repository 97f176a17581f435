/-! The check of the law, in ranges. -/
theorem zyr_341_1500 : zyBr 14 1500 250 (zMt 341) (zTt 341) = true := by decide +kernel
theorem zyr_341_1750 : zyBr 14 1750 250 (zMt 341) (zTt 341) = true := by decide +kernel
theorem zyr_341_2000 : zyBr 14 2000 250 (zMt 341) (zTt 341) = true := by decide +kernel
