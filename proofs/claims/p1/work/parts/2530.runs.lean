/-! The check of the law, in ranges. -/
theorem zyr_341_2250 : zyBr 14 2250 125 (zMt 341) (zTt 341) = true := by decide +kernel
