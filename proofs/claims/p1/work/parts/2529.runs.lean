/-! The check of the law, in ranges. -/
theorem zyr_341_2125 : zyBr 14 2125 125 (zMt 341) (zTt 341) = true := by decide +kernel
