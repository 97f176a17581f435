/-! The check's runs. -/
theorem zyb_181 : zyB 13 5 (zMt 181) (zTt 181) = true := by decide +kernel
theorem zyk_181 : zyok zTt zMt 181 := zyB_ok zyb_181 fun pc h => (show (bif Nat.blt pc 5 then _ else zNop) = zNop from zTN h)
theorem zyb_182 : zyB 13 15 (zMt 182) (zTt 182) = true := by decide +kernel
theorem zyk_182 : zyok zTt zMt 182 := zyB_ok zyb_182 fun pc h => (show (bif Nat.blt pc 15 then _ else zNop) = zNop from zTN h)
theorem zyb_183 : zyB 13 16 (zMt 183) (zTt 183) = true := by decide +kernel
theorem zyk_183 : zyok zTt zMt 183 := zyB_ok zyb_183 fun pc h => (show (bif Nat.blt pc 16 then _ else zNop) = zNop from zTN h)
theorem zyb_184 : zyB 13 9 (zMt 184) (zTt 184) = true := by decide +kernel
theorem zyk_184 : zyok zTt zMt 184 := zyB_ok zyb_184 fun pc h => (show (bif Nat.blt pc 9 then _ else zNop) = zNop from zTN h)
theorem zyb_185 : zyB 13 9 (zMt 185) (zTt 185) = true := by decide +kernel
theorem zyk_185 : zyok zTt zMt 185 := zyB_ok zyb_185 fun pc h => (show (bif Nat.blt pc 9 then _ else zNop) = zNop from zTN h)
theorem zyb_186 : zyB 13 9 (zMt 186) (zTt 186) = true := by decide +kernel
theorem zyk_186 : zyok zTt zMt 186 := zyB_ok zyb_186 fun pc h => (show (bif Nat.blt pc 9 then _ else zNop) = zNop from zTN h)
theorem zyb_187 : zyB 13 30 (zMt 187) (zTt 187) = true := by decide +kernel
theorem zyk_187 : zyok zTt zMt 187 := zyB_ok zyb_187 fun pc h => (show (bif Nat.blt pc 30 then _ else zNop) = zNop from zTN h)
theorem zyb_188 : zyB 13 24 (zMt 188) (zTt 188) = true := by decide +kernel
theorem zyk_188 : zyok zTt zMt 188 := zyB_ok zyb_188 fun pc h => (show (bif Nat.blt pc 24 then _ else zNop) = zNop from zTN h)
theorem zyb_189 : zyB 13 91 (zMt 189) (zTt 189) = true := by decide +kernel
theorem zyk_189 : zyok zTt zMt 189 := zyB_ok zyb_189 fun pc h => (show (bif Nat.blt pc 91 then _ else zNop) = zNop from zTN h)
theorem zyb_190 : zyB 13 191 (zMt 190) (zTt 190) = true := by decide +kernel
theorem zyk_190 : zyok zTt zMt 190 := zyB_ok zyb_190 fun pc h => (show (bif Nat.blt pc 191 then _ else zNop) = zNop from zTN h)
theorem zyb_191 : zyB 13 20 (zMt 191) (zTt 191) = true := by decide +kernel
theorem zyk_191 : zyok zTt zMt 191 := zyB_ok zyb_191 fun pc h => (show (bif Nat.blt pc 20 then _ else zNop) = zNop from zTN h)
theorem zyb_192 : zyB 13 35 (zMt 192) (zTt 192) = true := by decide +kernel
theorem zyk_192 : zyok zTt zMt 192 := zyB_ok zyb_192 fun pc h => (show (bif Nat.blt pc 35 then _ else zNop) = zNop from zTN h)
theorem zyb_193 : zyB 13 35 (zMt 193) (zTt 193) = true := by decide +kernel
theorem zyk_193 : zyok zTt zMt 193 := zyB_ok zyb_193 fun pc h => (show (bif Nat.blt pc 35 then _ else zNop) = zNop from zTN h)
theorem zyb_194 : zyB 13 45 (zMt 194) (zTt 194) = true := by decide +kernel
theorem zyk_194 : zyok zTt zMt 194 := zyB_ok zyb_194 fun pc h => (show (bif Nat.blt pc 45 then _ else zNop) = zNop from zTN h)
theorem zyb_195 : zyB 13 63 (zMt 195) (zTt 195) = true := by decide +kernel
theorem zyk_195 : zyok zTt zMt 195 := zyB_ok zyb_195 fun pc h => (show (bif Nat.blt pc 63 then _ else zNop) = zNop from zTN h)
theorem zyb_196 : zyB 13 139 (zMt 196) (zTt 196) = true := by decide +kernel
theorem zyk_196 : zyok zTt zMt 196 := zyB_ok zyb_196 fun pc h => (show (bif Nat.blt pc 139 then _ else zNop) = zNop from zTN h)
theorem zyb_197 : zyB 13 12 (zMt 197) (zTt 197) = true := by decide +kernel
theorem zyk_197 : zyok zTt zMt 197 := zyB_ok zyb_197 fun pc h => (show (bif Nat.blt pc 12 then _ else zNop) = zNop from zTN h)
theorem zyb_198 : zyB 13 10 (zMt 198) (zTt 198) = true := by decide +kernel
theorem zyk_198 : zyok zTt zMt 198 := zyB_ok zyb_198 fun pc h => (show (bif Nat.blt pc 10 then _ else zNop) = zNop from zTN h)
theorem zyb_199 : zyB 13 19 (zMt 199) (zTt 199) = true := by decide +kernel
theorem zyk_199 : zyok zTt zMt 199 := zyB_ok zyb_199 fun pc h => (show (bif Nat.blt pc 19 then _ else zNop) = zNop from zTN h)
theorem zyb_200 : zyB 13 61 (zMt 200) (zTt 200) = true := by decide +kernel
theorem zyk_200 : zyok zTt zMt 200 := zyB_ok zyb_200 fun pc h => (show (bif Nat.blt pc 61 then _ else zNop) = zNop from zTN h)
theorem zyb_201 : zyB 13 185 (zMt 201) (zTt 201) = true := by decide +kernel
theorem zyk_201 : zyok zTt zMt 201 := zyB_ok zyb_201 fun pc h => (show (bif Nat.blt pc 185 then _ else zNop) = zNop from zTN h)
theorem zyb_202 : zyB 13 58 (zMt 202) (zTt 202) = true := by decide +kernel
theorem zyk_202 : zyok zTt zMt 202 := zyB_ok zyb_202 fun pc h => (show (bif Nat.blt pc 58 then _ else zNop) = zNop from zTN h)
theorem zyb_203 : zyB 13 10 (zMt 203) (zTt 203) = true := by decide +kernel
theorem zyk_203 : zyok zTt zMt 203 := zyB_ok zyb_203 fun pc h => (show (bif Nat.blt pc 10 then _ else zNop) = zNop from zTN h)
theorem zyb_204 : zyB 13 51 (zMt 204) (zTt 204) = true := by decide +kernel
theorem zyk_204 : zyok zTt zMt 204 := zyB_ok zyb_204 fun pc h => (show (bif Nat.blt pc 51 then _ else zNop) = zNop from zTN h)
theorem zyb_205 : zyB 13 20 (zMt 205) (zTt 205) = true := by decide +kernel
theorem zyk_205 : zyok zTt zMt 205 := zyB_ok zyb_205 fun pc h => (show (bif Nat.blt pc 20 then _ else zNop) = zNop from zTN h)
theorem zyb_206 : zyB 13 189 (zMt 206) (zTt 206) = true := by decide +kernel
theorem zyk_206 : zyok zTt zMt 206 := zyB_ok zyb_206 fun pc h => (show (bif Nat.blt pc 189 then _ else zNop) = zNop from zTN h)
theorem zyb_207 : zyB 13 115 (zMt 207) (zTt 207) = true := by decide +kernel
theorem zyk_207 : zyok zTt zMt 207 := zyB_ok zyb_207 fun pc h => (show (bif Nat.blt pc 115 then _ else zNop) = zNop from zTN h)
theorem zyb_208 : zyB 13 39 (zMt 208) (zTt 208) = true := by decide +kernel
theorem zyk_208 : zyok zTt zMt 208 := zyB_ok zyb_208 fun pc h => (show (bif Nat.blt pc 39 then _ else zNop) = zNop from zTN h)
theorem zyb_209 : zyB 13 12 (zMt 209) (zTt 209) = true := by decide +kernel
theorem zyk_209 : zyok zTt zMt 209 := zyB_ok zyb_209 fun pc h => (show (bif Nat.blt pc 12 then _ else zNop) = zNop from zTN h)
theorem zyb_210 : zyB 13 54 (zMt 210) (zTt 210) = true := by decide +kernel
theorem zyk_210 : zyok zTt zMt 210 := zyB_ok zyb_210 fun pc h => (show (bif Nat.blt pc 54 then _ else zNop) = zNop from zTN h)
theorem zyb_211 : zyB 13 275 (zMt 211) (zTt 211) = true := by decide +kernel
theorem zyk_211 : zyok zTt zMt 211 := zyB_ok zyb_211 fun pc h => (show (bif Nat.blt pc 275 then _ else zNop) = zNop from zTN h)
theorem zyb_212 : zyB 13 148 (zMt 212) (zTt 212) = true := by decide +kernel
theorem zyk_212 : zyok zTt zMt 212 := zyB_ok zyb_212 fun pc h => (show (bif Nat.blt pc 148 then _ else zNop) = zNop from zTN h)
theorem zyb_213 : zyB 13 139 (zMt 213) (zTt 213) = true := by decide +kernel
theorem zyk_213 : zyok zTt zMt 213 := zyB_ok zyb_213 fun pc h => (show (bif Nat.blt pc 139 then _ else zNop) = zNop from zTN h)
