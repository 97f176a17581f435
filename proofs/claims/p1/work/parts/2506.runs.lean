/-! The check's runs. -/
theorem zyb_214 : zyB 13 10 (zMt 214) (zTt 214) = true := by decide +kernel
theorem zyk_214 : zyok zTt zMt 214 := zyB_ok zyb_214 fun pc h => (show (bif Nat.blt pc 10 then _ else zNop) = zNop from zTN h)
theorem zyb_215 : zyB 13 95 (zMt 215) (zTt 215) = true := by decide +kernel
theorem zyk_215 : zyok zTt zMt 215 := zyB_ok zyb_215 fun pc h => (show (bif Nat.blt pc 95 then _ else zNop) = zNop from zTN h)
theorem zyb_216 : zyB 13 135 (zMt 216) (zTt 216) = true := by decide +kernel
theorem zyk_216 : zyok zTt zMt 216 := zyB_ok zyb_216 fun pc h => (show (bif Nat.blt pc 135 then _ else zNop) = zNop from zTN h)
theorem zyb_217 : zyB 13 103 (zMt 217) (zTt 217) = true := by decide +kernel
theorem zyk_217 : zyok zTt zMt 217 := zyB_ok zyb_217 fun pc h => (show (bif Nat.blt pc 103 then _ else zNop) = zNop from zTN h)
theorem zyb_218 : zyB 13 77 (zMt 218) (zTt 218) = true := by decide +kernel
theorem zyk_218 : zyok zTt zMt 218 := zyB_ok zyb_218 fun pc h => (show (bif Nat.blt pc 77 then _ else zNop) = zNop from zTN h)
theorem zyb_219 : zyB 13 85 (zMt 219) (zTt 219) = true := by decide +kernel
theorem zyk_219 : zyok zTt zMt 219 := zyB_ok zyb_219 fun pc h => (show (bif Nat.blt pc 85 then _ else zNop) = zNop from zTN h)
theorem zyb_220 : zyB 13 157 (zMt 220) (zTt 220) = true := by decide +kernel
theorem zyk_220 : zyok zTt zMt 220 := zyB_ok zyb_220 fun pc h => (show (bif Nat.blt pc 157 then _ else zNop) = zNop from zTN h)
theorem zyb_221 : zyB 13 31 (zMt 221) (zTt 221) = true := by decide +kernel
theorem zyk_221 : zyok zTt zMt 221 := zyB_ok zyb_221 fun pc h => (show (bif Nat.blt pc 31 then _ else zNop) = zNop from zTN h)
theorem zyb_222 : zyB 13 137 (zMt 222) (zTt 222) = true := by decide +kernel
theorem zyk_222 : zyok zTt zMt 222 := zyB_ok zyb_222 fun pc h => (show (bif Nat.blt pc 137 then _ else zNop) = zNop from zTN h)
theorem zyb_223 : zyB 13 57 (zMt 223) (zTt 223) = true := by decide +kernel
theorem zyk_223 : zyok zTt zMt 223 := zyB_ok zyb_223 fun pc h => (show (bif Nat.blt pc 57 then _ else zNop) = zNop from zTN h)
theorem zyb_224 : zyB 13 21 (zMt 224) (zTt 224) = true := by decide +kernel
theorem zyk_224 : zyok zTt zMt 224 := zyB_ok zyb_224 fun pc h => (show (bif Nat.blt pc 21 then _ else zNop) = zNop from zTN h)
theorem zyb_225 : zyB 13 271 (zMt 225) (zTt 225) = true := by decide +kernel
theorem zyk_225 : zyok zTt zMt 225 := zyB_ok zyb_225 fun pc h => (show (bif Nat.blt pc 271 then _ else zNop) = zNop from zTN h)
theorem zyb_226 : zyB 13 7 (zMt 226) (zTt 226) = true := by decide +kernel
theorem zyk_226 : zyok zTt zMt 226 := zyB_ok zyb_226 fun pc h => (show (bif Nat.blt pc 7 then _ else zNop) = zNop from zTN h)
theorem zyb_227 : zyB 13 63 (zMt 227) (zTt 227) = true := by decide +kernel
theorem zyk_227 : zyok zTt zMt 227 := zyB_ok zyb_227 fun pc h => (show (bif Nat.blt pc 63 then _ else zNop) = zNop from zTN h)
theorem zyb_228 : zyB 13 27 (zMt 228) (zTt 228) = true := by decide +kernel
theorem zyk_228 : zyok zTt zMt 228 := zyB_ok zyb_228 fun pc h => (show (bif Nat.blt pc 27 then _ else zNop) = zNop from zTN h)
theorem zyb_229 : zyB 13 49 (zMt 229) (zTt 229) = true := by decide +kernel
theorem zyk_229 : zyok zTt zMt 229 := zyB_ok zyb_229 fun pc h => (show (bif Nat.blt pc 49 then _ else zNop) = zNop from zTN h)
theorem zyb_230 : zyB 13 27 (zMt 230) (zTt 230) = true := by decide +kernel
theorem zyk_230 : zyok zTt zMt 230 := zyB_ok zyb_230 fun pc h => (show (bif Nat.blt pc 27 then _ else zNop) = zNop from zTN h)
theorem zyb_231 : zyB 13 169 (zMt 231) (zTt 231) = true := by decide +kernel
theorem zyk_231 : zyok zTt zMt 231 := zyB_ok zyb_231 fun pc h => (show (bif Nat.blt pc 169 then _ else zNop) = zNop from zTN h)
theorem zyb_232 : zyB 13 130 (zMt 232) (zTt 232) = true := by decide +kernel
theorem zyk_232 : zyok zTt zMt 232 := zyB_ok zyb_232 fun pc h => (show (bif Nat.blt pc 130 then _ else zNop) = zNop from zTN h)
theorem zyb_233 : zyB 13 187 (zMt 233) (zTt 233) = true := by decide +kernel
theorem zyk_233 : zyok zTt zMt 233 := zyB_ok zyb_233 fun pc h => (show (bif Nat.blt pc 187 then _ else zNop) = zNop from zTN h)
theorem zyb_234 : zyB 13 36 (zMt 234) (zTt 234) = true := by decide +kernel
theorem zyk_234 : zyok zTt zMt 234 := zyB_ok zyb_234 fun pc h => (show (bif Nat.blt pc 36 then _ else zNop) = zNop from zTN h)
theorem zyb_235 : zyB 13 44 (zMt 235) (zTt 235) = true := by decide +kernel
theorem zyk_235 : zyok zTt zMt 235 := zyB_ok zyb_235 fun pc h => (show (bif Nat.blt pc 44 then _ else zNop) = zNop from zTN h)
theorem zyb_236 : zyB 13 184 (zMt 236) (zTt 236) = true := by decide +kernel
theorem zyk_236 : zyok zTt zMt 236 := zyB_ok zyb_236 fun pc h => (show (bif Nat.blt pc 184 then _ else zNop) = zNop from zTN h)
