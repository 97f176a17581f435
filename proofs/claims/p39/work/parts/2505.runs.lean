/-! The check's runs. -/
theorem zyb_345 : zyB 14 352 (zMt 345) (zTt 345) = true := by decide +kernel
theorem zyk_345 : zyok zTt zMt 345 := zyB_ok zyb_345 fun pc h => (show (bif Nat.blt pc 352 then _ else zNop) = zNop from zTN h)
theorem zyb_346 : zyB 14 16 (zMt 346) (zTt 346) = true := by decide +kernel
theorem zyk_346 : zyok zTt zMt 346 := zyB_ok zyb_346 fun pc h => (show (bif Nat.blt pc 16 then _ else zNop) = zNop from zTN h)
theorem zyb_347 : zyB 14 305 (zMt 347) (zTt 347) = true := by decide +kernel
theorem zyk_347 : zyok zTt zMt 347 := zyB_ok zyb_347 fun pc h => (show (bif Nat.blt pc 305 then _ else zNop) = zNop from zTN h)
theorem zyb_349 : zyB 14 187 (zMt 349) (zTt 349) = true := by decide +kernel
theorem zyk_349 : zyok zTt zMt 349 := zyB_ok zyb_349 fun pc h => (show (bif Nat.blt pc 187 then _ else zNop) = zNop from zTN h)
theorem zyb_350 : zyB 14 351 (zMt 350) (zTt 350) = true := by decide +kernel
theorem zyk_350 : zyok zTt zMt 350 := zyB_ok zyb_350 fun pc h => (show (bif Nat.blt pc 351 then _ else zNop) = zNop from zTN h)
theorem zyb_351 : zyB 14 23 (zMt 351) (zTt 351) = true := by decide +kernel
theorem zyk_351 : zyok zTt zMt 351 := zyB_ok zyb_351 fun pc h => (show (bif Nat.blt pc 23 then _ else zNop) = zNop from zTN h)
theorem zyb_352 : zyB 14 489 (zMt 352) (zTt 352) = true := by decide +kernel
theorem zyk_352 : zyok zTt zMt 352 := zyB_ok zyb_352 fun pc h => (show (bif Nat.blt pc 489 then _ else zNop) = zNop from zTN h)
theorem zyb_353 : zyB 14 178 (zMt 353) (zTt 353) = true := by decide +kernel
theorem zyk_353 : zyok zTt zMt 353 := zyB_ok zyb_353 fun pc h => (show (bif Nat.blt pc 178 then _ else zNop) = zNop from zTN h)
theorem zyb_354 : zyB 14 169 (zMt 354) (zTt 354) = true := by decide +kernel
theorem zyk_354 : zyok zTt zMt 354 := zyB_ok zyb_354 fun pc h => (show (bif Nat.blt pc 169 then _ else zNop) = zNop from zTN h)
