/-! The check's runs. -/
theorem zyb_237 : zyB 13 10 (zMt 237) (zTt 237) = true := by decide +kernel
theorem zyk_237 : zyok zTt zMt 237 := zyB_ok zyb_237 fun pc h => (show (bif Nat.blt pc 10 then _ else zNop) = zNop from zTN h)
theorem zyb_238 : zyB 13 64 (zMt 238) (zTt 238) = true := by decide +kernel
theorem zyk_238 : zyok zTt zMt 238 := zyB_ok zyb_238 fun pc h => (show (bif Nat.blt pc 64 then _ else zNop) = zNop from zTN h)
theorem zyb_239 : zyB 13 54 (zMt 239) (zTt 239) = true := by decide +kernel
theorem zyk_239 : zyok zTt zMt 239 := zyB_ok zyb_239 fun pc h => (show (bif Nat.blt pc 54 then _ else zNop) = zNop from zTN h)
theorem zyb_240 : zyB 13 243 (zMt 240) (zTt 240) = true := by decide +kernel
theorem zyk_240 : zyok zTt zMt 240 := zyB_ok zyb_240 fun pc h => (show (bif Nat.blt pc 243 then _ else zNop) = zNop from zTN h)
theorem zyb_241 : zyB 13 10 (zMt 241) (zTt 241) = true := by decide +kernel
theorem zyk_241 : zyok zTt zMt 241 := zyB_ok zyb_241 fun pc h => (show (bif Nat.blt pc 10 then _ else zNop) = zNop from zTN h)
theorem zyb_242 : zyB 13 118 (zMt 242) (zTt 242) = true := by decide +kernel
theorem zyk_242 : zyok zTt zMt 242 := zyB_ok zyb_242 fun pc h => (show (bif Nat.blt pc 118 then _ else zNop) = zNop from zTN h)
theorem zyb_243 : zyB 13 21 (zMt 243) (zTt 243) = true := by decide +kernel
theorem zyk_243 : zyok zTt zMt 243 := zyB_ok zyb_243 fun pc h => (show (bif Nat.blt pc 21 then _ else zNop) = zNop from zTN h)
theorem zyb_244 : zyB 13 55 (zMt 244) (zTt 244) = true := by decide +kernel
theorem zyk_244 : zyok zTt zMt 244 := zyB_ok zyb_244 fun pc h => (show (bif Nat.blt pc 55 then _ else zNop) = zNop from zTN h)
theorem zyb_245 : zyB 13 56 (zMt 245) (zTt 245) = true := by decide +kernel
theorem zyk_245 : zyok zTt zMt 245 := zyB_ok zyb_245 fun pc h => (show (bif Nat.blt pc 56 then _ else zNop) = zNop from zTN h)
theorem zyb_246 : zyB 13 21 (zMt 246) (zTt 246) = true := by decide +kernel
theorem zyk_246 : zyok zTt zMt 246 := zyB_ok zyb_246 fun pc h => (show (bif Nat.blt pc 21 then _ else zNop) = zNop from zTN h)
theorem zyb_247 : zyB 13 184 (zMt 247) (zTt 247) = true := by decide +kernel
theorem zyk_247 : zyok zTt zMt 247 := zyB_ok zyb_247 fun pc h => (show (bif Nat.blt pc 184 then _ else zNop) = zNop from zTN h)
theorem zyb_248 : zyB 13 69 (zMt 248) (zTt 248) = true := by decide +kernel
theorem zyk_248 : zyok zTt zMt 248 := zyB_ok zyb_248 fun pc h => (show (bif Nat.blt pc 69 then _ else zNop) = zNop from zTN h)
theorem zyb_249 : zyB 13 45 (zMt 249) (zTt 249) = true := by decide +kernel
theorem zyk_249 : zyok zTt zMt 249 := zyB_ok zyb_249 fun pc h => (show (bif Nat.blt pc 45 then _ else zNop) = zNop from zTN h)
theorem zyb_250 : zyB 13 67 (zMt 250) (zTt 250) = true := by decide +kernel
theorem zyk_250 : zyok zTt zMt 250 := zyB_ok zyb_250 fun pc h => (show (bif Nat.blt pc 67 then _ else zNop) = zNop from zTN h)
theorem zyb_251 : zyB 13 31 (zMt 251) (zTt 251) = true := by decide +kernel
theorem zyk_251 : zyok zTt zMt 251 := zyB_ok zyb_251 fun pc h => (show (bif Nat.blt pc 31 then _ else zNop) = zNop from zTN h)
theorem zyb_252 : zyB 13 12 (zMt 252) (zTt 252) = true := by decide +kernel
theorem zyk_252 : zyok zTt zMt 252 := zyB_ok zyb_252 fun pc h => (show (bif Nat.blt pc 12 then _ else zNop) = zNop from zTN h)
theorem zyb_253 : zyB 13 148 (zMt 253) (zTt 253) = true := by decide +kernel
theorem zyk_253 : zyok zTt zMt 253 := zyB_ok zyb_253 fun pc h => (show (bif Nat.blt pc 148 then _ else zNop) = zNop from zTN h)
theorem zyb_254 : zyB 13 38 (zMt 254) (zTt 254) = true := by decide +kernel
theorem zyk_254 : zyok zTt zMt 254 := zyB_ok zyb_254 fun pc h => (show (bif Nat.blt pc 38 then _ else zNop) = zNop from zTN h)
theorem zyb_255 : zyB 13 267 (zMt 255) (zTt 255) = true := by decide +kernel
theorem zyk_255 : zyok zTt zMt 255 := zyB_ok zyb_255 fun pc h => (show (bif Nat.blt pc 267 then _ else zNop) = zNop from zTN h)
theorem zyb_256 : zyB 13 115 (zMt 256) (zTt 256) = true := by decide +kernel
theorem zyk_256 : zyok zTt zMt 256 := zyB_ok zyb_256 fun pc h => (show (bif Nat.blt pc 115 then _ else zNop) = zNop from zTN h)
theorem zyb_257 : zyB 13 50 (zMt 257) (zTt 257) = true := by decide +kernel
theorem zyk_257 : zyok zTt zMt 257 := zyB_ok zyb_257 fun pc h => (show (bif Nat.blt pc 50 then _ else zNop) = zNop from zTN h)
theorem zyb_258 : zyB 13 22 (zMt 258) (zTt 258) = true := by decide +kernel
theorem zyk_258 : zyok zTt zMt 258 := zyB_ok zyb_258 fun pc h => (show (bif Nat.blt pc 22 then _ else zNop) = zNop from zTN h)
theorem zyb_259 : zyB 13 46 (zMt 259) (zTt 259) = true := by decide +kernel
theorem zyk_259 : zyok zTt zMt 259 := zyB_ok zyb_259 fun pc h => (show (bif Nat.blt pc 46 then _ else zNop) = zNop from zTN h)
theorem zyb_260 : zyB 13 66 (zMt 260) (zTt 260) = true := by decide +kernel
theorem zyk_260 : zyok zTt zMt 260 := zyB_ok zyb_260 fun pc h => (show (bif Nat.blt pc 66 then _ else zNop) = zNop from zTN h)
theorem zyb_261 : zyB 13 22 (zMt 261) (zTt 261) = true := by decide +kernel
theorem zyk_261 : zyok zTt zMt 261 := zyB_ok zyb_261 fun pc h => (show (bif Nat.blt pc 22 then _ else zNop) = zNop from zTN h)
theorem zyb_262 : zyB 13 88 (zMt 262) (zTt 262) = true := by decide +kernel
theorem zyk_262 : zyok zTt zMt 262 := zyB_ok zyb_262 fun pc h => (show (bif Nat.blt pc 88 then _ else zNop) = zNop from zTN h)
theorem zyb_263 : zyB 13 40 (zMt 263) (zTt 263) = true := by decide +kernel
theorem zyk_263 : zyok zTt zMt 263 := zyB_ok zyb_263 fun pc h => (show (bif Nat.blt pc 40 then _ else zNop) = zNop from zTN h)
