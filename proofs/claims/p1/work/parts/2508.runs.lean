/-! The check's runs. -/
theorem zyb_264 : zyB 13 44 (zMt 264) (zTt 264) = true := by decide +kernel
theorem zyk_264 : zyok zTt zMt 264 := zyB_ok zyb_264 fun pc h => (show (bif Nat.blt pc 44 then _ else zNop) = zNop from zTN h)
theorem zyb_265 : zyB 13 413 (zMt 265) (zTt 265) = true := by decide +kernel
theorem zyk_265 : zyok zTt zMt 265 := zyB_ok zyb_265 fun pc h => (show (bif Nat.blt pc 413 then _ else zNop) = zNop from zTN h)
theorem zyb_266 : zyB 13 25 (zMt 266) (zTt 266) = true := by decide +kernel
theorem zyk_266 : zyok zTt zMt 266 := zyB_ok zyb_266 fun pc h => (show (bif Nat.blt pc 25 then _ else zNop) = zNop from zTN h)
theorem zyb_267 : zyB 13 122 (zMt 267) (zTt 267) = true := by decide +kernel
theorem zyk_267 : zyok zTt zMt 267 := zyB_ok zyb_267 fun pc h => (show (bif Nat.blt pc 122 then _ else zNop) = zNop from zTN h)
theorem zyb_268 : zyB 13 198 (zMt 268) (zTt 268) = true := by decide +kernel
theorem zyk_268 : zyok zTt zMt 268 := zyB_ok zyb_268 fun pc h => (show (bif Nat.blt pc 198 then _ else zNop) = zNop from zTN h)
theorem zyb_269 : zyB 13 86 (zMt 269) (zTt 269) = true := by decide +kernel
theorem zyk_269 : zyok zTt zMt 269 := zyB_ok zyb_269 fun pc h => (show (bif Nat.blt pc 86 then _ else zNop) = zNop from zTN h)
theorem zyb_270 : zyB 13 27 (zMt 270) (zTt 270) = true := by decide +kernel
theorem zyk_270 : zyok zTt zMt 270 := zyB_ok zyb_270 fun pc h => (show (bif Nat.blt pc 27 then _ else zNop) = zNop from zTN h)
theorem zyb_271 : zyB 13 106 (zMt 271) (zTt 271) = true := by decide +kernel
theorem zyk_271 : zyok zTt zMt 271 := zyB_ok zyb_271 fun pc h => (show (bif Nat.blt pc 106 then _ else zNop) = zNop from zTN h)
theorem zyb_272 : zyB 13 54 (zMt 272) (zTt 272) = true := by decide +kernel
theorem zyk_272 : zyok zTt zMt 272 := zyB_ok zyb_272 fun pc h => (show (bif Nat.blt pc 54 then _ else zNop) = zNop from zTN h)
theorem zyb_273 : zyB 13 44 (zMt 273) (zTt 273) = true := by decide +kernel
theorem zyk_273 : zyok zTt zMt 273 := zyB_ok zyb_273 fun pc h => (show (bif Nat.blt pc 44 then _ else zNop) = zNop from zTN h)
theorem zyb_274 : zyB 13 7 (zMt 274) (zTt 274) = true := by decide +kernel
theorem zyk_274 : zyok zTt zMt 274 := zyB_ok zyb_274 fun pc h => (show (bif Nat.blt pc 7 then _ else zNop) = zNop from zTN h)
theorem zyb_275 : zyB 13 85 (zMt 275) (zTt 275) = true := by decide +kernel
theorem zyk_275 : zyok zTt zMt 275 := zyB_ok zyb_275 fun pc h => (show (bif Nat.blt pc 85 then _ else zNop) = zNop from zTN h)
theorem zyb_276 : zyB 13 260 (zMt 276) (zTt 276) = true := by decide +kernel
theorem zyk_276 : zyok zTt zMt 276 := zyB_ok zyb_276 fun pc h => (show (bif Nat.blt pc 260 then _ else zNop) = zNop from zTN h)
theorem zyb_277 : zyB 13 12 (zMt 277) (zTt 277) = true := by decide +kernel
theorem zyk_277 : zyok zTt zMt 277 := zyB_ok zyb_277 fun pc h => (show (bif Nat.blt pc 12 then _ else zNop) = zNop from zTN h)
theorem zyb_278 : zyB 13 214 (zMt 278) (zTt 278) = true := by decide +kernel
theorem zyk_278 : zyok zTt zMt 278 := zyB_ok zyb_278 fun pc h => (show (bif Nat.blt pc 214 then _ else zNop) = zNop from zTN h)
theorem zyb_279 : zyB 13 8 (zMt 279) (zTt 279) = true := by decide +kernel
theorem zyk_279 : zyok zTt zMt 279 := zyB_ok zyb_279 fun pc h => (show (bif Nat.blt pc 8 then _ else zNop) = zNop from zTN h)
theorem zyb_280 : zyB 13 44 (zMt 280) (zTt 280) = true := by decide +kernel
theorem zyk_280 : zyok zTt zMt 280 := zyB_ok zyb_280 fun pc h => (show (bif Nat.blt pc 44 then _ else zNop) = zNop from zTN h)
theorem zyb_281 : zyB 13 66 (zMt 281) (zTt 281) = true := by decide +kernel
theorem zyk_281 : zyok zTt zMt 281 := zyB_ok zyb_281 fun pc h => (show (bif Nat.blt pc 66 then _ else zNop) = zNop from zTN h)
theorem zyb_282 : zyB 13 93 (zMt 282) (zTt 282) = true := by decide +kernel
theorem zyk_282 : zyok zTt zMt 282 := zyB_ok zyb_282 fun pc h => (show (bif Nat.blt pc 93 then _ else zNop) = zNop from zTN h)
