/-! The check's runs. -/
theorem zyb_283 : zyB 13 258 (zMt 283) (zTt 283) = true := by decide +kernel
theorem zyk_283 : zyok zTt zMt 283 := zyB_ok zyb_283 fun pc h => (show (bif Nat.blt pc 258 then _ else zNop) = zNop from zTN h)
theorem zyb_284 : zyB 13 278 (zMt 284) (zTt 284) = true := by decide +kernel
theorem zyk_284 : zyok zTt zMt 284 := zyB_ok zyb_284 fun pc h => (show (bif Nat.blt pc 278 then _ else zNop) = zNop from zTN h)
theorem zyb_285 : zyB 13 40 (zMt 285) (zTt 285) = true := by decide +kernel
theorem zyk_285 : zyok zTt zMt 285 := zyB_ok zyb_285 fun pc h => (show (bif Nat.blt pc 40 then _ else zNop) = zNop from zTN h)
theorem zyb_286 : zyB 13 49 (zMt 286) (zTt 286) = true := by decide +kernel
theorem zyk_286 : zyok zTt zMt 286 := zyB_ok zyb_286 fun pc h => (show (bif Nat.blt pc 49 then _ else zNop) = zNop from zTN h)
theorem zyb_287 : zyB 13 122 (zMt 287) (zTt 287) = true := by decide +kernel
theorem zyk_287 : zyok zTt zMt 287 := zyB_ok zyb_287 fun pc h => (show (bif Nat.blt pc 122 then _ else zNop) = zNop from zTN h)
theorem zyb_288 : zyB 13 10 (zMt 288) (zTt 288) = true := by decide +kernel
theorem zyk_288 : zyok zTt zMt 288 := zyB_ok zyb_288 fun pc h => (show (bif Nat.blt pc 10 then _ else zNop) = zNop from zTN h)
theorem zyb_289 : zyB 13 12 (zMt 289) (zTt 289) = true := by decide +kernel
theorem zyk_289 : zyok zTt zMt 289 := zyB_ok zyb_289 fun pc h => (show (bif Nat.blt pc 12 then _ else zNop) = zNop from zTN h)
theorem zyb_290 : zyB 13 63 (zMt 290) (zTt 290) = true := by decide +kernel
theorem zyk_290 : zyok zTt zMt 290 := zyB_ok zyb_290 fun pc h => (show (bif Nat.blt pc 63 then _ else zNop) = zNop from zTN h)
theorem zyb_291 : zyB 13 88 (zMt 291) (zTt 291) = true := by decide +kernel
theorem zyk_291 : zyok zTt zMt 291 := zyB_ok zyb_291 fun pc h => (show (bif Nat.blt pc 88 then _ else zNop) = zNop from zTN h)
theorem zyb_292 : zyB 13 65 (zMt 292) (zTt 292) = true := by decide +kernel
theorem zyk_292 : zyok zTt zMt 292 := zyB_ok zyb_292 fun pc h => (show (bif Nat.blt pc 65 then _ else zNop) = zNop from zTN h)
theorem zyb_293 : zyB 13 39 (zMt 293) (zTt 293) = true := by decide +kernel
theorem zyk_293 : zyok zTt zMt 293 := zyB_ok zyb_293 fun pc h => (show (bif Nat.blt pc 39 then _ else zNop) = zNop from zTN h)
theorem zyb_294 : zyB 13 51 (zMt 294) (zTt 294) = true := by decide +kernel
theorem zyk_294 : zyok zTt zMt 294 := zyB_ok zyb_294 fun pc h => (show (bif Nat.blt pc 51 then _ else zNop) = zNop from zTN h)
theorem zyb_295 : zyB 13 57 (zMt 295) (zTt 295) = true := by decide +kernel
theorem zyk_295 : zyok zTt zMt 295 := zyB_ok zyb_295 fun pc h => (show (bif Nat.blt pc 57 then _ else zNop) = zNop from zTN h)
theorem zyb_296 : zyB 13 172 (zMt 296) (zTt 296) = true := by decide +kernel
theorem zyk_296 : zyok zTt zMt 296 := zyB_ok zyb_296 fun pc h => (show (bif Nat.blt pc 172 then _ else zNop) = zNop from zTN h)
theorem zyb_297 : zyB 13 84 (zMt 297) (zTt 297) = true := by decide +kernel
theorem zyk_297 : zyok zTt zMt 297 := zyB_ok zyb_297 fun pc h => (show (bif Nat.blt pc 84 then _ else zNop) = zNop from zTN h)
theorem zyb_298 : zyB 13 133 (zMt 298) (zTt 298) = true := by decide +kernel
theorem zyk_298 : zyok zTt zMt 298 := zyB_ok zyb_298 fun pc h => (show (bif Nat.blt pc 133 then _ else zNop) = zNop from zTN h)
theorem zyb_299 : zyB 13 127 (zMt 299) (zTt 299) = true := by decide +kernel
theorem zyk_299 : zyok zTt zMt 299 := zyB_ok zyb_299 fun pc h => (show (bif Nat.blt pc 127 then _ else zNop) = zNop from zTN h)
theorem zyb_300 : zyB 13 94 (zMt 300) (zTt 300) = true := by decide +kernel
theorem zyk_300 : zyok zTt zMt 300 := zyB_ok zyb_300 fun pc h => (show (bif Nat.blt pc 94 then _ else zNop) = zNop from zTN h)
theorem zyb_301 : zyB 13 10 (zMt 301) (zTt 301) = true := by decide +kernel
theorem zyk_301 : zyok zTt zMt 301 := zyB_ok zyb_301 fun pc h => (show (bif Nat.blt pc 10 then _ else zNop) = zNop from zTN h)
theorem zyb_302 : zyB 13 29 (zMt 302) (zTt 302) = true := by decide +kernel
theorem zyk_302 : zyok zTt zMt 302 := zyB_ok zyb_302 fun pc h => (show (bif Nat.blt pc 29 then _ else zNop) = zNop from zTN h)
theorem zyb_303 : zyB 13 127 (zMt 303) (zTt 303) = true := by decide +kernel
theorem zyk_303 : zyok zTt zMt 303 := zyB_ok zyb_303 fun pc h => (show (bif Nat.blt pc 127 then _ else zNop) = zNop from zTN h)
theorem zyb_304 : zyB 13 133 (zMt 304) (zTt 304) = true := by decide +kernel
theorem zyk_304 : zyok zTt zMt 304 := zyB_ok zyb_304 fun pc h => (show (bif Nat.blt pc 133 then _ else zNop) = zNop from zTN h)
