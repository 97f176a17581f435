/-! The check of the law, in ranges. -/
theorem zyr_341_1375 : zyBr 14 1375 125 (zMt 341) (zTt 341) = true := by decide +kernel
