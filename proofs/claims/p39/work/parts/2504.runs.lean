/-! The check's runs. -/
theorem zyb_143 : zyB 12 14 (zMt 143) (zTt 143) = true := by decide +kernel
theorem zyk_143 : zyok zTt zMt 143 := zyB_ok zyb_143 fun pc h => (show (bif Nat.blt pc 14 then _ else zNop) = zNop from zTN h)
theorem zyb_144 : zyB 12 90 (zMt 144) (zTt 144) = true := by decide +kernel
theorem zyk_144 : zyok zTt zMt 144 := zyB_ok zyb_144 fun pc h => (show (bif Nat.blt pc 90 then _ else zNop) = zNop from zTN h)
theorem zyb_145 : zyB 12 61 (zMt 145) (zTt 145) = true := by decide +kernel
theorem zyk_145 : zyok zTt zMt 145 := zyB_ok zyb_145 fun pc h => (show (bif Nat.blt pc 61 then _ else zNop) = zNop from zTN h)
theorem zyb_146 : zyB 12 79 (zMt 146) (zTt 146) = true := by decide +kernel
theorem zyk_146 : zyok zTt zMt 146 := zyB_ok zyb_146 fun pc h => (show (bif Nat.blt pc 79 then _ else zNop) = zNop from zTN h)
theorem zyb_147 : zyB 12 5 (zMt 147) (zTt 147) = true := by decide +kernel
theorem zyk_147 : zyok zTt zMt 147 := zyB_ok zyb_147 fun pc h => (show (bif Nat.blt pc 5 then _ else zNop) = zNop from zTN h)
theorem zyb_148 : zyB 12 110 (zMt 148) (zTt 148) = true := by decide +kernel
theorem zyk_148 : zyok zTt zMt 148 := zyB_ok zyb_148 fun pc h => (show (bif Nat.blt pc 110 then _ else zNop) = zNop from zTN h)
theorem zyb_149 : zyB 12 116 (zMt 149) (zTt 149) = true := by decide +kernel
theorem zyk_149 : zyok zTt zMt 149 := zyB_ok zyb_149 fun pc h => (show (bif Nat.blt pc 116 then _ else zNop) = zNop from zTN h)
theorem zyb_150 : zyB 12 56 (zMt 150) (zTt 150) = true := by decide +kernel
theorem zyk_150 : zyok zTt zMt 150 := zyB_ok zyb_150 fun pc h => (show (bif Nat.blt pc 56 then _ else zNop) = zNop from zTN h)
theorem zyb_151 : zyB 12 13 (zMt 151) (zTt 151) = true := by decide +kernel
theorem zyk_151 : zyok zTt zMt 151 := zyB_ok zyb_151 fun pc h => (show (bif Nat.blt pc 13 then _ else zNop) = zNop from zTN h)
theorem zyb_152 : zyB 12 30 (zMt 152) (zTt 152) = true := by decide +kernel
theorem zyk_152 : zyok zTt zMt 152 := zyB_ok zyb_152 fun pc h => (show (bif Nat.blt pc 30 then _ else zNop) = zNop from zTN h)
theorem zyb_153 : zyB 12 30 (zMt 153) (zTt 153) = true := by decide +kernel
theorem zyk_153 : zyok zTt zMt 153 := zyB_ok zyb_153 fun pc h => (show (bif Nat.blt pc 30 then _ else zNop) = zNop from zTN h)
theorem zyb_154 : zyB 12 30 (zMt 154) (zTt 154) = true := by decide +kernel
theorem zyk_154 : zyok zTt zMt 154 := zyB_ok zyb_154 fun pc h => (show (bif Nat.blt pc 30 then _ else zNop) = zNop from zTN h)
theorem zyb_155 : zyB 12 30 (zMt 155) (zTt 155) = true := by decide +kernel
theorem zyk_155 : zyok zTt zMt 155 := zyB_ok zyb_155 fun pc h => (show (bif Nat.blt pc 30 then _ else zNop) = zNop from zTN h)
theorem zyb_156 : zyB 12 21 (zMt 156) (zTt 156) = true := by decide +kernel
theorem zyk_156 : zyok zTt zMt 156 := zyB_ok zyb_156 fun pc h => (show (bif Nat.blt pc 21 then _ else zNop) = zNop from zTN h)
theorem zyb_157 : zyB 12 21 (zMt 157) (zTt 157) = true := by decide +kernel
theorem zyk_157 : zyok zTt zMt 157 := zyB_ok zyb_157 fun pc h => (show (bif Nat.blt pc 21 then _ else zNop) = zNop from zTN h)
theorem zyb_158 : zyB 12 59 (zMt 158) (zTt 158) = true := by decide +kernel
theorem zyk_158 : zyok zTt zMt 158 := zyB_ok zyb_158 fun pc h => (show (bif Nat.blt pc 59 then _ else zNop) = zNop from zTN h)
theorem zyb_159 : zyB 12 47 (zMt 159) (zTt 159) = true := by decide +kernel
theorem zyk_159 : zyok zTt zMt 159 := zyB_ok zyb_159 fun pc h => (show (bif Nat.blt pc 47 then _ else zNop) = zNop from zTN h)
theorem zyb_160 : zyB 12 30 (zMt 160) (zTt 160) = true := by decide +kernel
theorem zyk_160 : zyok zTt zMt 160 := zyB_ok zyb_160 fun pc h => (show (bif Nat.blt pc 30 then _ else zNop) = zNop from zTN h)
theorem zyb_161 : zyB 12 36 (zMt 161) (zTt 161) = true := by decide +kernel
theorem zyk_161 : zyok zTt zMt 161 := zyB_ok zyb_161 fun pc h => (show (bif Nat.blt pc 36 then _ else zNop) = zNop from zTN h)
theorem zyb_162 : zyB 12 51 (zMt 162) (zTt 162) = true := by decide +kernel
theorem zyk_162 : zyok zTt zMt 162 := zyB_ok zyb_162 fun pc h => (show (bif Nat.blt pc 51 then _ else zNop) = zNop from zTN h)
theorem zyb_163 : zyB 12 51 (zMt 163) (zTt 163) = true := by decide +kernel
theorem zyk_163 : zyok zTt zMt 163 := zyB_ok zyb_163 fun pc h => (show (bif Nat.blt pc 51 then _ else zNop) = zNop from zTN h)
theorem zyb_164 : zyB 12 24 (zMt 164) (zTt 164) = true := by decide +kernel
theorem zyk_164 : zyok zTt zMt 164 := zyB_ok zyb_164 fun pc h => (show (bif Nat.blt pc 24 then _ else zNop) = zNop from zTN h)
theorem zyb_165 : zyB 12 45 (zMt 165) (zTt 165) = true := by decide +kernel
theorem zyk_165 : zyok zTt zMt 165 := zyB_ok zyb_165 fun pc h => (show (bif Nat.blt pc 45 then _ else zNop) = zNop from zTN h)
theorem zyb_166 : zyB 12 32 (zMt 166) (zTt 166) = true := by decide +kernel
theorem zyk_166 : zyok zTt zMt 166 := zyB_ok zyb_166 fun pc h => (show (bif Nat.blt pc 32 then _ else zNop) = zNop from zTN h)
theorem zyb_167 : zyB 12 71 (zMt 167) (zTt 167) = true := by decide +kernel
theorem zyk_167 : zyok zTt zMt 167 := zyB_ok zyb_167 fun pc h => (show (bif Nat.blt pc 71 then _ else zNop) = zNop from zTN h)
theorem zyb_168 : zyB 12 46 (zMt 168) (zTt 168) = true := by decide +kernel
theorem zyk_168 : zyok zTt zMt 168 := zyB_ok zyb_168 fun pc h => (show (bif Nat.blt pc 46 then _ else zNop) = zNop from zTN h)
theorem zyb_169 : zyB 12 90 (zMt 169) (zTt 169) = true := by decide +kernel
theorem zyk_169 : zyok zTt zMt 169 := zyB_ok zyb_169 fun pc h => (show (bif Nat.blt pc 90 then _ else zNop) = zNop from zTN h)
theorem zyb_170 : zyB 12 110 (zMt 170) (zTt 170) = true := by decide +kernel
theorem zyk_170 : zyok zTt zMt 170 := zyB_ok zyb_170 fun pc h => (show (bif Nat.blt pc 110 then _ else zNop) = zNop from zTN h)
theorem zyb_171 : zyB 12 123 (zMt 171) (zTt 171) = true := by decide +kernel
theorem zyk_171 : zyok zTt zMt 171 := zyB_ok zyb_171 fun pc h => (show (bif Nat.blt pc 123 then _ else zNop) = zNop from zTN h)
theorem zyb_172 : zyB 12 22 (zMt 172) (zTt 172) = true := by decide +kernel
theorem zyk_172 : zyok zTt zMt 172 := zyB_ok zyb_172 fun pc h => (show (bif Nat.blt pc 22 then _ else zNop) = zNop from zTN h)
theorem zyb_173 : zyB 12 29 (zMt 173) (zTt 173) = true := by decide +kernel
theorem zyk_173 : zyok zTt zMt 173 := zyB_ok zyb_173 fun pc h => (show (bif Nat.blt pc 29 then _ else zNop) = zNop from zTN h)
theorem zyb_174 : zyB 12 16 (zMt 174) (zTt 174) = true := by decide +kernel
theorem zyk_174 : zyok zTt zMt 174 := zyB_ok zyb_174 fun pc h => (show (bif Nat.blt pc 16 then _ else zNop) = zNop from zTN h)
theorem zyb_175 : zyB 12 38 (zMt 175) (zTt 175) = true := by decide +kernel
theorem zyk_175 : zyok zTt zMt 175 := zyB_ok zyb_175 fun pc h => (show (bif Nat.blt pc 38 then _ else zNop) = zNop from zTN h)
theorem zyb_176 : zyB 12 29 (zMt 176) (zTt 176) = true := by decide +kernel
theorem zyk_176 : zyok zTt zMt 176 := zyB_ok zyb_176 fun pc h => (show (bif Nat.blt pc 29 then _ else zNop) = zNop from zTN h)
theorem zyb_177 : zyB 12 36 (zMt 177) (zTt 177) = true := by decide +kernel
theorem zyk_177 : zyok zTt zMt 177 := zyB_ok zyb_177 fun pc h => (show (bif Nat.blt pc 36 then _ else zNop) = zNop from zTN h)
theorem zyb_178 : zyB 12 30 (zMt 178) (zTt 178) = true := by decide +kernel
theorem zyk_178 : zyok zTt zMt 178 := zyB_ok zyb_178 fun pc h => (show (bif Nat.blt pc 30 then _ else zNop) = zNop from zTN h)
theorem zyb_179 : zyB 12 49 (zMt 179) (zTt 179) = true := by decide +kernel
theorem zyk_179 : zyok zTt zMt 179 := zyB_ok zyb_179 fun pc h => (show (bif Nat.blt pc 49 then _ else zNop) = zNop from zTN h)
theorem zyb_306 : zyB 15 53 (zMt 306) (zTt 306) = true := by decide +kernel
theorem zyk_306 : zyok zTt zMt 306 := zyB_ok zyb_306 fun pc h => (show (bif Nat.blt pc 53 then _ else zNop) = zNop from zTN h)
theorem zyk_307 : zyok zTt zMt 307 := ⟨by decide, Or.inl rfl, fun pc => Or.inl rfl⟩
theorem zyk_308 : zyok zTt zMt 308 := ⟨by decide, Or.inl rfl, fun pc => Or.inl rfl⟩
theorem zyk_309 : zyok zTt zMt 309 := ⟨by decide, Or.inl rfl, fun pc => Or.inl rfl⟩
theorem zyb_342 : zyB 14 28 (zMt 342) (zTt 342) = true := by decide +kernel
theorem zyk_342 : zyok zTt zMt 342 := zyB_ok zyb_342 fun pc h => (show (bif Nat.blt pc 28 then _ else zNop) = zNop from zTN h)
theorem zyb_343 : zyB 14 7 (zMt 343) (zTt 343) = true := by decide +kernel
theorem zyk_343 : zyok zTt zMt 343 := zyB_ok zyb_343 fun pc h => (show (bif Nat.blt pc 7 then _ else zNop) = zNop from zTN h)
theorem zyb_344 : zyB 14 296 (zMt 344) (zTt 344) = true := by decide +kernel
theorem zyk_344 : zyok zTt zMt 344 := zyB_ok zyb_344 fun pc h => (show (bif Nat.blt pc 296 then _ else zNop) = zNop from zTN h)
