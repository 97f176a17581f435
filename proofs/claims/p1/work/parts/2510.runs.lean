/-! The check's runs. -/
theorem zyb_305 : zyB 13 69 (zMt 305) (zTt 305) = true := by decide +kernel
theorem zyk_305 : zyok zTt zMt 305 := zyB_ok zyb_305 fun pc h => (show (bif Nat.blt pc 69 then _ else zNop) = zNop from zTN h)
theorem zyb_306 : zyB 15 53 (zMt 306) (zTt 306) = true := by decide +kernel
theorem zyk_306 : zyok zTt zMt 306 := zyB_ok zyb_306 fun pc h => (show (bif Nat.blt pc 53 then _ else zNop) = zNop from zTN h)
theorem zyk_307 : zyok zTt zMt 307 := ⟨by decide, Or.inl rfl, fun pc => Or.inl rfl⟩
theorem zyk_308 : zyok zTt zMt 308 := ⟨by decide, Or.inl rfl, fun pc => Or.inl rfl⟩
theorem zyk_309 : zyok zTt zMt 309 := ⟨by decide, Or.inl rfl, fun pc => Or.inl rfl⟩
theorem zyb_310 : zyB 14 24 (zMt 310) (zTt 310) = true := by decide +kernel
theorem zyk_310 : zyok zTt zMt 310 := zyB_ok zyb_310 fun pc h => (show (bif Nat.blt pc 24 then _ else zNop) = zNop from zTN h)
theorem zyb_311 : zyB 14 16 (zMt 311) (zTt 311) = true := by decide +kernel
theorem zyk_311 : zyok zTt zMt 311 := zyB_ok zyb_311 fun pc h => (show (bif Nat.blt pc 16 then _ else zNop) = zNop from zTN h)
theorem zyb_312 : zyB 14 33 (zMt 312) (zTt 312) = true := by decide +kernel
theorem zyk_312 : zyok zTt zMt 312 := zyB_ok zyb_312 fun pc h => (show (bif Nat.blt pc 33 then _ else zNop) = zNop from zTN h)
theorem zyb_313 : zyB 14 19 (zMt 313) (zTt 313) = true := by decide +kernel
theorem zyk_313 : zyok zTt zMt 313 := zyB_ok zyb_313 fun pc h => (show (bif Nat.blt pc 19 then _ else zNop) = zNop from zTN h)
theorem zyb_314 : zyB 14 27 (zMt 314) (zTt 314) = true := by decide +kernel
theorem zyk_314 : zyok zTt zMt 314 := zyB_ok zyb_314 fun pc h => (show (bif Nat.blt pc 27 then _ else zNop) = zNop from zTN h)
theorem zyb_315 : zyB 14 29 (zMt 315) (zTt 315) = true := by decide +kernel
theorem zyk_315 : zyok zTt zMt 315 := zyB_ok zyb_315 fun pc h => (show (bif Nat.blt pc 29 then _ else zNop) = zNop from zTN h)
theorem zyb_316 : zyB 14 34 (zMt 316) (zTt 316) = true := by decide +kernel
theorem zyk_316 : zyok zTt zMt 316 := zyB_ok zyb_316 fun pc h => (show (bif Nat.blt pc 34 then _ else zNop) = zNop from zTN h)
theorem zyb_317 : zyB 14 27 (zMt 317) (zTt 317) = true := by decide +kernel
theorem zyk_317 : zyok zTt zMt 317 := zyB_ok zyb_317 fun pc h => (show (bif Nat.blt pc 27 then _ else zNop) = zNop from zTN h)
theorem zyb_318 : zyB 14 26 (zMt 318) (zTt 318) = true := by decide +kernel
theorem zyk_318 : zyok zTt zMt 318 := zyB_ok zyb_318 fun pc h => (show (bif Nat.blt pc 26 then _ else zNop) = zNop from zTN h)
theorem zyb_319 : zyB 14 26 (zMt 319) (zTt 319) = true := by decide +kernel
theorem zyk_319 : zyok zTt zMt 319 := zyB_ok zyb_319 fun pc h => (show (bif Nat.blt pc 26 then _ else zNop) = zNop from zTN h)
theorem zyb_320 : zyB 14 20 (zMt 320) (zTt 320) = true := by decide +kernel
theorem zyk_320 : zyok zTt zMt 320 := zyB_ok zyb_320 fun pc h => (show (bif Nat.blt pc 20 then _ else zNop) = zNop from zTN h)
theorem zyb_321 : zyB 14 27 (zMt 321) (zTt 321) = true := by decide +kernel
theorem zyk_321 : zyok zTt zMt 321 := zyB_ok zyb_321 fun pc h => (show (bif Nat.blt pc 27 then _ else zNop) = zNop from zTN h)
theorem zyb_322 : zyB 14 27 (zMt 322) (zTt 322) = true := by decide +kernel
theorem zyk_322 : zyok zTt zMt 322 := zyB_ok zyb_322 fun pc h => (show (bif Nat.blt pc 27 then _ else zNop) = zNop from zTN h)
theorem zyb_323 : zyB 14 33 (zMt 323) (zTt 323) = true := by decide +kernel
theorem zyk_323 : zyok zTt zMt 323 := zyB_ok zyb_323 fun pc h => (show (bif Nat.blt pc 33 then _ else zNop) = zNop from zTN h)
theorem zyb_324 : zyB 14 23 (zMt 324) (zTt 324) = true := by decide +kernel
theorem zyk_324 : zyok zTt zMt 324 := zyB_ok zyb_324 fun pc h => (show (bif Nat.blt pc 23 then _ else zNop) = zNop from zTN h)
theorem zyb_325 : zyB 14 25 (zMt 325) (zTt 325) = true := by decide +kernel
theorem zyk_325 : zyok zTt zMt 325 := zyB_ok zyb_325 fun pc h => (show (bif Nat.blt pc 25 then _ else zNop) = zNop from zTN h)
theorem zyb_326 : zyB 14 23 (zMt 326) (zTt 326) = true := by decide +kernel
theorem zyk_326 : zyok zTt zMt 326 := zyB_ok zyb_326 fun pc h => (show (bif Nat.blt pc 23 then _ else zNop) = zNop from zTN h)
theorem zyb_327 : zyB 14 23 (zMt 327) (zTt 327) = true := by decide +kernel
theorem zyk_327 : zyok zTt zMt 327 := zyB_ok zyb_327 fun pc h => (show (bif Nat.blt pc 23 then _ else zNop) = zNop from zTN h)
theorem zyb_328 : zyB 14 25 (zMt 328) (zTt 328) = true := by decide +kernel
theorem zyk_328 : zyok zTt zMt 328 := zyB_ok zyb_328 fun pc h => (show (bif Nat.blt pc 25 then _ else zNop) = zNop from zTN h)
theorem zyb_329 : zyB 14 23 (zMt 329) (zTt 329) = true := by decide +kernel
theorem zyk_329 : zyok zTt zMt 329 := zyB_ok zyb_329 fun pc h => (show (bif Nat.blt pc 23 then _ else zNop) = zNop from zTN h)
theorem zyb_330 : zyB 14 23 (zMt 330) (zTt 330) = true := by decide +kernel
theorem zyk_330 : zyok zTt zMt 330 := zyB_ok zyb_330 fun pc h => (show (bif Nat.blt pc 23 then _ else zNop) = zNop from zTN h)
theorem zyb_331 : zyB 14 23 (zMt 331) (zTt 331) = true := by decide +kernel
theorem zyk_331 : zyok zTt zMt 331 := zyB_ok zyb_331 fun pc h => (show (bif Nat.blt pc 23 then _ else zNop) = zNop from zTN h)
theorem zyb_332 : zyB 14 20 (zMt 332) (zTt 332) = true := by decide +kernel
theorem zyk_332 : zyok zTt zMt 332 := zyB_ok zyb_332 fun pc h => (show (bif Nat.blt pc 20 then _ else zNop) = zNop from zTN h)
theorem zyb_333 : zyB 14 21 (zMt 333) (zTt 333) = true := by decide +kernel
theorem zyk_333 : zyok zTt zMt 333 := zyB_ok zyb_333 fun pc h => (show (bif Nat.blt pc 21 then _ else zNop) = zNop from zTN h)
theorem zyb_334 : zyB 14 19 (zMt 334) (zTt 334) = true := by decide +kernel
theorem zyk_334 : zyok zTt zMt 334 := zyB_ok zyb_334 fun pc h => (show (bif Nat.blt pc 19 then _ else zNop) = zNop from zTN h)
theorem zyb_335 : zyB 14 23 (zMt 335) (zTt 335) = true := by decide +kernel
theorem zyk_335 : zyok zTt zMt 335 := zyB_ok zyb_335 fun pc h => (show (bif Nat.blt pc 23 then _ else zNop) = zNop from zTN h)
theorem zyb_336 : zyB 14 25 (zMt 336) (zTt 336) = true := by decide +kernel
theorem zyk_336 : zyok zTt zMt 336 := zyB_ok zyb_336 fun pc h => (show (bif Nat.blt pc 25 then _ else zNop) = zNop from zTN h)
theorem zyb_337 : zyB 14 20 (zMt 337) (zTt 337) = true := by decide +kernel
theorem zyk_337 : zyok zTt zMt 337 := zyB_ok zyb_337 fun pc h => (show (bif Nat.blt pc 20 then _ else zNop) = zNop from zTN h)
theorem zyb_338 : zyB 14 23 (zMt 338) (zTt 338) = true := by decide +kernel
theorem zyk_338 : zyok zTt zMt 338 := zyB_ok zyb_338 fun pc h => (show (bif Nat.blt pc 23 then _ else zNop) = zNop from zTN h)
theorem zyb_339 : zyB 14 19 (zMt 339) (zTt 339) = true := by decide +kernel
theorem zyk_339 : zyok zTt zMt 339 := zyB_ok zyb_339 fun pc h => (show (bif Nat.blt pc 19 then _ else zNop) = zNop from zTN h)
theorem zyb_340 : zyB 14 17 (zMt 340) (zTt 340) = true := by decide +kernel
theorem zyk_340 : zyok zTt zMt 340 := zyB_ok zyb_340 fun pc h => (show (bif Nat.blt pc 17 then _ else zNop) = zNop from zTN h)
