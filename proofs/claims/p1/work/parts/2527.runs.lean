/-! The check of the law, in ranges. -/
theorem zyr_341_1875 : zyBr 14 1875 125 (zMt 341) (zTt 341) = true := by decide +kernel
