/-! The check's runs. -/
theorem zyb_355 : zyB 14 482 (zMt 355) (zTt 355) = true := by decide +kernel
theorem zyk_355 : zyok zTt zMt 355 := zyB_ok zyb_355 fun pc h => (show (bif Nat.blt pc 482 then _ else zNop) = zNop from zTN h)
