/-! The text on the tape is added to a book: the reference. -/
def qAdR (M0 m : Int → Int → Int) (b : Int) (J0 i : Nat) (t0 : Int → Int) (fp : Nat → Int) (fW : Nat → List Int) (fd fs fb fm : Nat → Int) : Prop :=
  (∀ z j, ¬ (z = 64 ∨ (z = 37 ∧ (j = 32 ∨ j = 33 ∨ j = 34 ∨ j = 36 ∨ j = 37 ∨ j = 38)) ∨ (54 ≤ z ∧ z ≤ 61)) → m z j = M0 z j) ∧ (m 54 b = (J0 : Int) + i ∧ ∀ b', b' ≠ b → m 54 b' = M0 54 b') ∧
  (∀ z q, (55 ≤ z ∧ z ≤ 57) ∨ (59 ≤ z ∧ z ≤ 61) → q < 80 * b + J0 ∨ 80 * b + J0 + i ≤ q → m z q = M0 z q) ∧ (∀ q, q < 10 * (80 * b + J0) ∨ 10 * (80 * b + J0 + i) ≤ q → m 58 q = M0 58 q) ∧
  ∀ k : Nat, k < i → qWr m (80 * b + ((J0 : Int) + k)) (fW k) (fd k) (fs k) (fb k) (fm k) ∧ m 61 (80 * b + ((J0 : Int) + k)) = qah_ t0 (fp k) k
theorem r_addCopy (e : Nat) (Z : zS) (b n i E k : Int) (hK : qK Z) (L : Nat) (hL : L ≤ 10) (hk : 0 ≤ k ∧ k < 320) : ∀ (G j : Nat) (m : Int → Int → Int) (x3 x4 x5 : zV), qP m → m 37 36 = (L : Int) → j + G = L → ∃ m', zF_255 e 165 [vr 37, vi b, vi n, x3, x4, x5, vi i, vi E, vi k, vi (j : Int)] [] (qW Z m) = zF_255 e 200 [vr 37, vi b, vi n, vu, vu, vu, vi i, vi E, vi k, vi (L : Int)] [] (qW Z m') ∧ (∀ q, m' 58 q = if 10 * k + j ≤ q ∧ q < 10 * k + L then m 64 (q - 10 * k) % 65536 else m 58 q) ∧ ∀ z, z ≠ 58 → m' z = m z := by
  intro G
  induction G with
  | zero =>
    intro j m x3 x4 x5 hP h36 hj
    obtain rfl : j = L := by omega
    refine ⟨m, ?_, fun q => by rw [if_neg (by omega)], fun _ _ => rfl⟩
    rw [b255_165]
    simp (config := { maxSteps := 2000000 }) (disch := first | omega | (simp only [K_37 hK, qb_in, qkW, qmW, qnW, true_and, and_true, or_self, true_or, or_true, and_self]; done) | (simp only [K_37 hK, qb_in, qkW, qmW, qnW, true_and, and_true, or_self, true_or, or_true, and_self]; omega)) only [b255_0, b255_4, b255_10, b255_16, b255_20, b255_24, b255_28, b255_41, b255_46, b255_49, b255_53, b255_54, b255_57, b255_60, b255_62, b255_77, b255_83, b255_98, b255_116, b255_135, b255_153, b255_174, b255_192, b255_200, b255_213, b255_216, b255_221, b255_225, b255_231, b255_236, b255_240, b255_241, b255_255, qcall_l, qcall_r, qretn_l, qJ_s, qJ_n, qV0, qEx, ↓qif0, ↓zchk_pos, ↓reduceIte, qput, qWW, qmW, qkW, qnW, K_37 hK, h36, if_neg (show ¬ (j : Int) < j from Int.lt_irrefl _)]
  | succ G ih =>
    intro j m x3 x4 x5 hP h36 hj
    have jL : (j : Int) < L := Int.ofNat_lt.mpr (by omega)
    have j0 : 0 ≤ (j : Int) := Int.natCast_nonneg j
    have j10 : (j : Int) < 10 := by omega
    have p35 := P_37_35 hP
    have p26 := P_37_26 hP
    have z1 : z32 (10 * k) = 10 * k := q32 (by omega)
    have z2 : z32 (10 * k + (j : Int)) = 10 * k + j := q32 (by omega)
    have w0 : 0 ≤ 10 * k + (j : Int) := by omega
    have w1 : 10 * k + (j : Int) < 3200 := by omega
    obtain ⟨m1, hm1⟩ : ∃ m1, qu m 58 (10 * k + j) (m 64 j % 65536) = m1 := ⟨_, rfl⟩
    have o1 : ∀ z, z ≠ 58 → m1 z = m z := fun z hz => by rw [← hm1, qu_o _ _ _ _ _ hz]
    obtain ⟨m', r, g1, g2⟩ := ih (j + 1) m1 vu vu vu (hP.same fun q hq => by
      have n := qPt_n q hq
      rw [o1 q.1 (by omega)]) (by rw [o1 37 (by decide), h36]) (by omega)
    refine ⟨m', ?_, fun q => ?_, fun z hz => by rw [g2 z hz, o1 z hz]⟩
    · rw [← r, b255_165]
      clear ih r g1 g2 o1
      simp (config := { maxSteps := 2000000 }) (disch := first | omega | (simp only [K_37 hK, K_64 hK, K_58 hK, p35, p26, j0, j10, w0, w1, qb_in, qkW, qmW, qnW, true_and, and_true, or_self, true_or, or_true, and_self]; done) | (simp only [K_37 hK, K_64 hK, K_58 hK, p35, p26, j0, j10, w0, w1, qb_in, qkW, qmW, qnW, true_and, and_true, or_self, true_or, or_true, and_self]; omega)) only [b255_0, b255_4, b255_10, b255_16, b255_20, b255_24, b255_28, b255_41, b255_46, b255_49, b255_53, b255_54, b255_57, b255_60, b255_62, b255_77, b255_83, b255_98, b255_116, b255_135, b255_153, b255_174, b255_192, b255_200, b255_213, b255_216, b255_221, b255_225, b255_231, b255_236, b255_240, b255_241, b255_255, qcall_l, qcall_r, qretn_l, qJ_s, qJ_n, qV0, qEx, ↓qif0, ↓zchk_pos, ↓reduceIte, qput, qWW, qmW, qkW, qnW, K_37 hK, K_64 hK, K_58 hK, h36, if_pos jL, p35, p26, z1, z2, hm1, z32_s j (by omega)]
    · rw [g1, o1 64 (by decide), ← hm1, qu_row]
      show (if _ then _ else if q = 10 * k + (j : Int) then m 64 j % 65536 else m 58 q) = _
      by_cases c : q = 10 * k + (j : Int)
      · rw [if_neg (by omega), if_pos c, if_pos (by omega), show q - 10 * k = (j : Int) by omega]
      · rw [if_neg c]
        by_cases c2 : 10 * k + (j : Int) ≤ q ∧ q < 10 * k + L
        · rw [if_pos (by omega), if_pos c2]
        · rw [if_neg (by omega), if_neg c2]
/-- a word is written to the rows -/
theorem r_addRunA (e : Nat) (Z : zS) (m m1 a1 a2 a3 a4 a5 a6 m7 : Int → Int → Int) (b n i fpi E k J st dg bg L mk ah : Int) (x3 x7 x8 x9 : zV) (hK : qK Z) (hin : i < n) (rt : zD e 206 [vr 37, vi fpi] (qW Z m) = some (.inl (some (vi E)), qW Z m1)) (p22 : m1 37 22 = 54) (v54 : m1 54 b = J) (z1 : z32 (80 * b) = 80 * b) (z2 : z32 (80 * b + J) = k) (p23 : m1 37 23 = 55) (x32 : m1 37 32 = st) (ha1 : qu m1 55 k st = a1) (p24 : a1 37 24 = 56) (c33 : a1 37 33 = dg) (ha2 : qu a1 56 k dg = a2) (p25 : a2 37 25 = 57) (c34 : a2 37 34 = bg) (ha3 : qu a2 57 k bg = a3) (p27 : a3 37 27 = 59) (c36 : a3 37 36 = L) (ha4 : qu a3 59 k L = a4) (p28 : a4 37 28 = 60) (c37 : a4 37 37 = mk) (ha5 : qu a4 60 k mk = a5) (p29 : a5 37 29 = 61) (ha6 : qu a5 61 k ah = a6) (r7 : zF_255 e 165 [vr 37, vi b, vi n, vu, vu, vi ah, vi i, vi E, vi k, vi 0] [] (qW Z a6) = zF_255 e 200 [vr 37, vi b, vi n, vu, vu, vu, vi i, vi E, vi k, vi L] [] (qW Z m7)) (k0 : 0 ≤ k) (k1 : k < 320) (b0 : 0 ≤ b) (b4 : b < 4) (st0 : 0 ≤ st) (st1 : st ≤ 1) (dg0 : 0 ≤ dg) (dg1 : dg ≤ 1) :
    zF_255 e 71 [vr 37, vi b, vi n, x3, vi fpi, vi ah, vi i, x7, x8, x9] [] (qW Z m) = zF_255 e 200 [vr 37, vi b, vi n, vu, vu, vu, vi i, vi E, vi k, vi L] [] (qW Z m7) := by
  have t37 := K_37 hK
  have t54 := K_54 hK
  have t55 := K_55 hK
  have t56 := K_56 hK
  have t57 := K_57 hK
  have t59 := K_59 hK
  have t60 := K_60 hK
  have t61 := K_61 hK
  clear hK
  rw [b255_71]
  simp (config := { maxSteps := 2000000 }) (disch := first | (simp only [t37, t54, t55, t56, t57, t59, t60, t61, p22, p23, p24, p25, p27, p28, p29, x32, c33, z1, v54, z2, k0, k1, b0, b4, st0, st1, dg0, dg1, qb_in, qkW, qmW, qnW, true_and, and_true, or_self, true_or, or_true, and_self]; done) | omega | (simp only [t37, t54, t55, t56, t57, t59, t60, t61, p22, p23, p24, p25, p27, p28, p29, x32, c33, z1, v54, z2, k0, k1, b0, b4, st0, st1, dg0, dg1, qb_in, qkW, qmW, qnW, true_and, and_true, or_self, true_or, or_true, and_self]; omega)) only [b255_0, b255_4, b255_10, b255_16, b255_20, b255_24, b255_28, b255_41, b255_46, b255_49, b255_53, b255_54, b255_57, b255_60, b255_62, b255_77, b255_83, b255_98, b255_116, b255_135, b255_153, b255_174, b255_192, b255_213, b255_216, b255_221, b255_225, b255_231, b255_236, b255_240, b255_241, b255_255, qcall_l, qcall_r, qretn_l, qJ_s, qJ_n, qV0, qEx, ↓qif0, ↓zchk_pos, ↓reduceIte, qput, qWW, qmW, qkW, qnW, t37, t54, t55, t56, t57, t59, t60, t61, if_pos hin, rt, p22, v54, z1, z2, p23, x32, ha1, p24, c33, ha2, p25, c34, ha3, p27, c36, ha4, p28, c37, ha5, p29, ha6, r7]
theorem r_addRunB (e : Nat) (Z : zS) (m7 m8 : Int → Int → Int) (b n i E k J L sv i1 : Int) (hK : qK Z) (u22 : m7 37 22 = 54) (u54 : m7 54 b = J) (z3 : z32 (J + 1) = J + 1) (hm8 : qu m7 54 b (J + 1) = m8) (sg : zD e 199 [vr 37, vi E] (qW Z m8) = some (.inl (some (vi sv)), qW Z m8)) (zE : z32 (E + 1) = E + 1) (zi : z32 (i + 1) = i1) (b0 : 0 ≤ b) (b4 : b < 4) :
    zF_255 e 200 [vr 37, vi b, vi n, vu, vu, vu, vi i, vi E, vi k, vi L] [] (qW Z m7) = zF_255 e 71 [vr 37, vi b, vi n, vu, vi (E + 1), vi (if sv = 47 then 1 else if sv = 124 then 2 else 0), vi i1, vi E, vu, vu] [] (qW Z m8) := by
  have t37 := K_37 hK
  have t54 := K_54 hK
  clear hK
  rw [b255_200]
  by_cases c1 : sv = 47
  · rw [if_pos c1]
    simp (config := { maxSteps := 2000000 }) (disch := first | (simp only [t37, t54, u22, b0, b4, qb_in, qkW, qmW, qnW, true_and, and_true, or_self, true_or, or_true, and_self]; done) | omega | (simp only [t37, t54, u22, b0, b4, qb_in, qkW, qmW, qnW, true_and, and_true, or_self, true_or, or_true, and_self]; omega)) only [b255_0, b255_4, b255_10, b255_16, b255_20, b255_24, b255_28, b255_41, b255_46, b255_49, b255_53, b255_54, b255_57, b255_60, b255_62, b255_77, b255_83, b255_98, b255_116, b255_135, b255_153, b255_174, b255_192, b255_213, b255_216, b255_221, b255_225, b255_231, b255_236, b255_240, b255_241, b255_255, qcall_l, qcall_r, qretn_l, qJ_s, qJ_n, qV0, qEx, ↓qif0, ↓zchk_pos, ↓reduceIte, qput, qWW, qmW, qkW, qnW, t37, t54, u22, u54, z3, hm8, sg, if_pos c1, zE, zi]
  · rw [if_neg c1]
    by_cases c2 : sv = 124
    · rw [if_pos c2]
      simp (config := { maxSteps := 2000000 }) (disch := first | (simp only [t37, t54, u22, b0, b4, qb_in, qkW, qmW, qnW, true_and, and_true, or_self, true_or, or_true, and_self]; done) | omega | (simp only [t37, t54, u22, b0, b4, qb_in, qkW, qmW, qnW, true_and, and_true, or_self, true_or, or_true, and_self]; omega)) only [b255_0, b255_4, b255_10, b255_16, b255_20, b255_24, b255_28, b255_41, b255_46, b255_49, b255_53, b255_54, b255_57, b255_60, b255_62, b255_77, b255_83, b255_98, b255_116, b255_135, b255_153, b255_174, b255_192, b255_213, b255_216, b255_221, b255_225, b255_231, b255_236, b255_240, b255_241, b255_255, qcall_l, qcall_r, qretn_l, qJ_s, qJ_n, qV0, qEx, ↓qif0, ↓zchk_pos, ↓reduceIte, qput, qWW, qmW, qkW, qnW, t37, t54, u22, u54, z3, hm8, sg, if_neg c1, if_pos c2, zE, zi]
    · rw [if_neg c2]
      simp (config := { maxSteps := 2000000 }) (disch := first | (simp only [t37, t54, u22, b0, b4, qb_in, qkW, qmW, qnW, true_and, and_true, or_self, true_or, or_true, and_self]; done) | omega | (simp only [t37, t54, u22, b0, b4, qb_in, qkW, qmW, qnW, true_and, and_true, or_self, true_or, or_true, and_self]; omega)) only [b255_0, b255_4, b255_10, b255_16, b255_20, b255_24, b255_28, b255_41, b255_46, b255_49, b255_53, b255_54, b255_57, b255_60, b255_62, b255_77, b255_83, b255_98, b255_116, b255_135, b255_153, b255_174, b255_192, b255_213, b255_216, b255_221, b255_225, b255_231, b255_236, b255_240, b255_241, b255_255, qcall_l, qcall_r, qretn_l, qJ_s, qJ_n, qV0, qEx, ↓qif0, ↓zchk_pos, ↓reduceIte, qput, qWW, qmW, qkW, qnW, t37, t54, u22, u54, z3, hm8, sg, if_neg c1, if_neg c2, zE, zi]
theorem z32_n {i n : Nat} (h : i < n) (h2 : n ≤ 80) : z32 ((i : Int) + 1) = ((i + 1 : Nat) : Int) := z32_s i (by omega)
theorem r_addEnd {M0 m m1 a1 a2 a3 a4 a5 a6 m7 m8 : Int → Int → Int} {b k : Int} {J0 i : Nat} {t0 : Int → Int} {fp : Nat → Int} {fW : Nat → List Int} {fd fs fb fm : Nat → Int} (hA : qAdR M0 m b J0 i t0 fp fW fd fs fb fm) (b0 : 0 ≤ b) (f1 : ∀ z j, ¬ (z = 64 ∨ (z = 37 ∧ (j = 32 ∨ j = 33 ∨ j = 34 ∨ j = 36 ∨ j = 37 ∨ j = 38))) → m1 z j = m z j) (hk : 80 * b + ((J0 : Int) + i) = k) (ha1 : qu m1 55 k (fs i) = a1) (ha2 : qu a1 56 k (fd i) = a2) (ha3 : qu a2 57 k (fb i) = a3) (ha4 : qu a3 59 k ((fW i).length : Int) = a4) (ha5 : qu a4 60 k (fm i) = a5) (ha6 : qu a5 61 k (qah_ t0 (fp i) i) = a6) (g7 : ∀ q, m7 58 q = if 10 * k + ((0 : Nat) : Int) ≤ q ∧ q < 10 * k + ((fW i).length : Int) then a6 64 (q - 10 * k) % 65536 else a6 58 q) (o7' : ∀ z, z ≠ 58 → m7 z = a6 z) (hm8 : qu m7 54 b ((J0 : Int) + i + 1) = m8) (w10 : (fW i).length ≤ 10) (wdg : (fd i = 0 ∧ ∀ q, 0 ≤ q → q < ((fW i).length : Int) → 0 ≤ qnth (fW i) q ∧ qnth (fW i) q < 26) ∨ (fd i = 1 ∧ fb i = 0 ∧ (fW i).length ≤ 6 ∧ ∀ q, 0 ≤ q → q < ((fW i).length : Int) → 0 ≤ qnth (fW i) q ∧ qnth (fW i) q ≤ 9)) (x64 : ∀ j, 0 ≤ j → j < ((fW i).length : Int) → m1 64 j = qnth (fW i) j + if fd i = 1 then 48 else 97) (l10 : ∀ k' : Nat, k' < i → (fW k').length ≤ 10) : qAdR M0 m8 b J0 (i + 1) t0 fp fW fd fs fb fm := by
  obtain ⟨r1, ⟨r2, r2'⟩, r3, r4, r5⟩ := hA
  have a6o : ∀ z, z ≠ 55 → z ≠ 56 → z ≠ 57 → z ≠ 59 → z ≠ 60 → z ≠ 61 → a6 z = m1 z := fun z h1 h2 h3 h4 h5 h6 => by rw [← ha6, qu_o _ _ _ _ _ h6, ← ha5, qu_o _ _ _ _ _ h5, ← ha4, qu_o _ _ _ _ _ h4, ← ha3, qu_o _ _ _ _ _ h3, ← ha2, qu_o _ _ _ _ _ h2, ← ha1, qu_o _ _ _ _ _ h1]
  have o8 : ∀ z, z ≠ 54 → m8 z = m7 z := fun z hz => by rw [← hm8, qu_o _ _ _ _ _ hz]
  have O8 : ∀ z, z ≠ 54 → z ≠ 58 → z ≠ 55 → z ≠ 56 → z ≠ 57 → z ≠ 59 → z ≠ 60 → z ≠ 61 → m8 z = m1 z := fun z h1 h2 h3 h4 h5 h6 h7 h8 => by rw [o8 z h1, o7' z h2, a6o z h3 h4 h5 h6 h7 h8]
  have L8 : ∀ z, (55 ≤ z ∧ z ≤ 57) ∨ (59 ≤ z ∧ z ≤ 61) → m8 z = a6 z := fun z hz => by rw [o8 z (by omega), o7' z (by omega)]
  have e55 : ∀ q, a6 55 q = if q = k then fs i else m1 55 q := fun q => by rw [← ha6, qu_o _ _ _ _ _ (by decide), ← ha5, qu_o _ _ _ _ _ (by decide), ← ha4, qu_o _ _ _ _ _ (by decide), ← ha3, qu_o _ _ _ _ _ (by decide), ← ha2, qu_o _ _ _ _ _ (by decide), ← ha1, qu_row]
  have e56 : ∀ q, a6 56 q = if q = k then fd i else m1 56 q := fun q => by rw [← ha6, qu_o _ _ _ _ _ (by decide), ← ha5, qu_o _ _ _ _ _ (by decide), ← ha4, qu_o _ _ _ _ _ (by decide), ← ha3, qu_o _ _ _ _ _ (by decide), ← ha2, qu_row, ← ha1, qu_o _ _ _ _ _ (by decide)]
  have e57 : ∀ q, a6 57 q = if q = k then fb i else m1 57 q := fun q => by rw [← ha6, qu_o _ _ _ _ _ (by decide), ← ha5, qu_o _ _ _ _ _ (by decide), ← ha4, qu_o _ _ _ _ _ (by decide), ← ha3, qu_row, ← ha2, qu_o _ _ _ _ _ (by decide), ← ha1, qu_o _ _ _ _ _ (by decide)]
  have e59 : ∀ q, a6 59 q = if q = k then ((fW i).length : Int) else m1 59 q := fun q => by rw [← ha6, qu_o _ _ _ _ _ (by decide), ← ha5, qu_o _ _ _ _ _ (by decide), ← ha4, qu_row, ← ha3, qu_o _ _ _ _ _ (by decide), ← ha2, qu_o _ _ _ _ _ (by decide), ← ha1, qu_o _ _ _ _ _ (by decide)]
  have e60 : ∀ q, a6 60 q = if q = k then fm i else m1 60 q := fun q => by rw [← ha6, qu_o _ _ _ _ _ (by decide), ← ha5, qu_row, ← ha4, qu_o _ _ _ _ _ (by decide), ← ha3, qu_o _ _ _ _ _ (by decide), ← ha2, qu_o _ _ _ _ _ (by decide), ← ha1, qu_o _ _ _ _ _ (by decide)]
  have e61 : ∀ q, a6 61 q = if q = k then qah_ t0 (fp i) i else m1 61 q := fun q => by rw [← ha6, qu_row, ← ha5, qu_o _ _ _ _ _ (by decide), ← ha4, qu_o _ _ _ _ _ (by decide), ← ha3, qu_o _ _ _ _ _ (by decide), ← ha2, qu_o _ _ _ _ _ (by decide), ← ha1, qu_o _ _ _ _ _ (by decide)]
  have keep : ∀ z q, (55 ≤ z ∧ z ≤ 57) ∨ (59 ≤ z ∧ z ≤ 61) → q ≠ k → m8 z q = m z q := fun z q hz hq => by
    rw [L8 z hz, ← f1 z q (by omega)]
    have : z = 55 ∨ z = 56 ∨ z = 57 ∨ z = 59 ∨ z = 60 ∨ z = 61 := by omega
    rcases this with rfl | rfl | rfl | rfl | rfl | rfl
    · rw [e55, if_neg hq]
    · rw [e56, if_neg hq]
    · rw [e57, if_neg hq]
    · rw [e59, if_neg hq]
    · rw [e60, if_neg hq]
    · rw [e61, if_neg hq]
  have e58 : ∀ q, m8 58 q = if 10 * k ≤ q ∧ q < 10 * k + ((fW i).length : Int) then m1 64 (q - 10 * k) % 65536 else m 58 q := fun q => by
    rw [o8 58 (by decide), g7, a6o 64 (by decide) (by decide) (by decide) (by decide) (by decide) (by decide), a6o 58 (by decide) (by decide) (by decide) (by decide) (by decide) (by decide), f1 58 q (by omega), show 10 * k + ((0 : Nat) : Int) = 10 * k by omega]
  refine ⟨fun z j hz => ?_, ⟨?_, fun b' hb' => ?_⟩, fun z q hz hq => ?_, fun q hq => ?_, fun k' hk' => ?_⟩
  · rw [O8 z (by omega) (by omega) (by omega) (by omega) (by omega) (by omega) (by omega) (by omega), f1 z j (by omega), r1 z j hz]
  · rw [← hm8, qu_s]
    omega
  · rw [← hm8, qu_i _ _ _ _ _ hb', o7' 54 (by decide), a6o 54 (by decide) (by decide) (by decide) (by decide) (by decide) (by decide), f1 54 b' (by omega), r2' b' hb']
  · rw [keep z q hz (by omega), r3 z q hz (by omega)]
  · rw [e58, if_neg (by omega), r4 q (by omega)]
  · by_cases q : k' = i
    · subst q
      rw [hk]
      refine ⟨⟨by rw [L8 55 (by omega), e55, if_pos rfl], by rw [L8 56 (by omega), e56, if_pos rfl], by rw [L8 57 (by omega), e57, if_pos rfl], by rw [L8 59 (by omega), e59, if_pos rfl], by rw [L8 60 (by omega), e60, if_pos rfl], fun j j1 j2 => ?_⟩, by rw [L8 61 (by omega), e61, if_pos rfl]⟩
      rw [e58, if_pos (by omega), show 10 * k + j - 10 * k = j by omega, x64 j j1 j2]
      refine Int.emod_eq_of_lt ?_ ?_
      · rcases wdg with ⟨c1, c2⟩ | ⟨c1, -, -, c2⟩
        · have := c2 j j1 j2
          split <;> omega
        · have := c2 j j1 j2
          split <;> omega
      · rcases wdg with ⟨c1, c2⟩ | ⟨c1, -, -, c2⟩
        · have := c2 j j1 j2
          split <;> omega
        · have := c2 j j1 j2
          split <;> omega
    · obtain ⟨⟨y1, y2, y3, y4, y5, y6⟩, y7⟩ := r5 k' (by omega)
      have l10 := l10 k' (by omega)
      refine ⟨⟨by rw [keep 55 _ (by omega) (by omega), y1], by rw [keep 56 _ (by omega) (by omega), y2], by rw [keep 57 _ (by omega) (by omega), y3], by rw [keep 59 _ (by omega) (by omega), y4], by rw [keep 60 _ (by omega) (by omega), y5], fun j j1 j2 => ?_⟩, by rw [keep 61 _ (by omega) (by omega), y7]⟩
      rw [e58, if_neg (by omega), y6 j j1 j2]
section
variable {S : zS} {b x c a g w t Nc : Int} {T : Int → Int → Int} {J0 n : Nat} {t0 : Int → Int} {N : Int} {fp : Nat → Int} {fW : Nat → List Int} {fd fs fb fm : Nat → Int} {pp : Nat → Nat} {gL gE : Nat → List Int} {gA gU gM : Nat → Int}
theorem r_addStep (e : Nat) (Z : zS) (M0 m : Int → Int → Int) (i : Nat) (x3 x7 x8 x9 : zV) (he : 6 ≤ e) (hH : qHC S) (h : qAdH S b x c a g w t Nc T J0 n t0 N fp fW fd fs fb fm pp gL gE gA gU gM) (hi : i < n) (hK : qK Z) (hP0 : qP M0) (h2 : M0 37 2 = N) (h38 : M0 38 = t0) (h12 : 0 ≤ M0 37 12 ∧ M0 37 12 ≤ 12) (hb : b < 4) (hA : qAdR M0 m b J0 i t0 fp fW fd fs fb fm) :
    ∃ m' va x7', zF_255 e 71 [vr 37, vi b, vi (n : Int), x3, vi (fp i), vi (qah_ t0 (fp i) i), vi (i : Int), x7, x8, x9] [] (qW Z m) = zF_255 e 71 [vr 37, vi b, vi (n : Int), vu, vi (fp (i + 1)), vi va, vi ((i + 1 : Nat) : Int), vi x7', vu, vu] [] (qW Z m') ∧ (i + 1 < n → va = qah_ t0 (fp (i + 1)) (i + 1)) ∧ qAdR M0 m' b J0 (i + 1) t0 fp fW fd fs fb fm := by
  obtain ⟨⟨⟨⟨-, -, -, -⟩, ⟨hRT, -, -, -⟩, -, -⟩, -⟩, -⟩ := id hH
  have h0 := h
  obtain ⟨⟨hb0, -⟩, ⟨-, hJ⟩, ⟨s38, s2⟩, ⟨tx, -⟩, -⟩ := h
  obtain ⟨⟨q1, q2, q3⟩, q4, q5, w2, -, ttk⟩ := tx i hi
  obtain ⟨E, hE⟩ : ∃ E, fp (i + 1) - 1 = E := ⟨_, rfl⟩
  rw [hE] at q2 q3 q4 q5 ttk
  have N60 := hRT.2.1
  rw [s2] at N60
  obtain ⟨r1, ⟨r2, r2'⟩, r3, r4, r5⟩ := hA
  have hPm : qP m := hP0.same fun q hq => by
    have n := qPt_n q hq
    exact r1 q.1 q.2.1 (by omega)
  obtain ⟨m1, rt, rx, fr⟩ := ttk e (qW Z m) (by omega) hK hPm (by show m 37 2 = N; rw [r1 37 2 (by omega), h2]) (by show m 38 = t0; rw [← h38]; exact funext fun q => r1 38 q (by omega)) (by show 0 ≤ m 37 12 ∧ m 37 12 ≤ 12; rw [r1 37 12 (by omega)]; exact h12)
  obtain ⟨x36, -, x32, x33, x34, x37, x64⟩ := rx
  have f1 : ∀ z j, ¬ (z = 64 ∨ (z = 37 ∧ (j = 32 ∨ j = 33 ∨ j = 34 ∨ j = 36 ∨ j = 37 ∨ j = 38))) → m1 z j = m z j := fun z j hz => by
    by_cases q : z = 37
    · subst q
      exact fr.2 j (by simp only [List.mem_cons, List.not_mem_nil, or_false]; omega)
    · exact congrFun (fr.1 z q (by simp only [List.mem_cons, List.not_mem_nil, or_false]; omega)) j
  have hP1 : qP m1 := hPm.same fun q hq => by
    have n := qPt_n q hq
    exact f1 q.1 q.2.1 (by omega)
  obtain ⟨k, hk⟩ : ∃ k, 80 * b + ((J0 : Int) + i) = k := ⟨_, rfl⟩
  have kr : 0 ≤ k ∧ k < 320 := by omega
  have v54 : m1 54 b = (J0 : Int) + i := by rw [f1 54 b (by omega), r2]
  have z1 : z32 (80 * b) = 80 * b := q32 (by omega)
  have z2 : z32 (80 * b + ((J0 : Int) + i)) = k := by rw [q32 (by omega), hk]
  obtain ⟨w21, wst, wdg, wbg, wmk, -⟩ := w2
  have rdg : 0 ≤ fd i ∧ fd i ≤ 1 := by rcases wdg with q | q <;> omega
  -- what is written of a word
  obtain ⟨a1, ha1⟩ : ∃ A, qu m1 55 k (fs i) = A := ⟨_, rfl⟩
  obtain ⟨a2, ha2⟩ : ∃ A, qu a1 56 k (fd i) = A := ⟨_, rfl⟩
  obtain ⟨a3, ha3⟩ : ∃ A, qu a2 57 k (fb i) = A := ⟨_, rfl⟩
  obtain ⟨a4, ha4⟩ : ∃ A, qu a3 59 k ((fW i).length : Int) = A := ⟨_, rfl⟩
  obtain ⟨a5, ha5⟩ : ∃ A, qu a4 60 k (fm i) = A := ⟨_, rfl⟩
  obtain ⟨a6, ha6⟩ : ∃ A, qu a5 61 k (qah_ t0 (fp i) i) = A := ⟨_, rfl⟩
  have b1 : a1 37 = m1 37 := by rw [← ha1, qu_o _ _ _ _ _ (by decide)]
  have b2 : a2 37 = m1 37 := by rw [← ha2, qu_o _ _ _ _ _ (by decide), b1]
  have b3 : a3 37 = m1 37 := by rw [← ha3, qu_o _ _ _ _ _ (by decide), b2]
  have b4 : a4 37 = m1 37 := by rw [← ha4, qu_o _ _ _ _ _ (by decide), b3]
  have b5 : a5 37 = m1 37 := by rw [← ha5, qu_o _ _ _ _ _ (by decide), b4]
  have b6 : a6 37 = m1 37 := by rw [← ha6, qu_o _ _ _ _ _ (by decide), b5]
  have p22 := P_37_22 hP1
  have p23 := P_37_23 hP1
  have p24 : a1 37 24 = 56 := by rw [b1]; exact P_37_24 hP1
  have p25 : a2 37 25 = 57 := by rw [b2]; exact P_37_25 hP1
  have p27 : a3 37 27 = 59 := by rw [b3]; exact P_37_27 hP1
  have p28 : a4 37 28 = 60 := by rw [b4]; exact P_37_28 hP1
  have p29 : a5 37 29 = 61 := by rw [b5]; exact P_37_29 hP1
  have c33 : a1 37 33 = fd i := by rw [b1, x33]
  have c34 : a2 37 34 = fb i := by rw [b2, x34]
  have c36 : a3 37 36 = ((fW i).length : Int) := by rw [b3, x36]
  have c37 : a4 37 37 = fm i := by rw [b4, x37]
  have a6o : ∀ z, z ≠ 55 → z ≠ 56 → z ≠ 57 → z ≠ 59 → z ≠ 60 → z ≠ 61 → a6 z = m1 z := fun z h1 h2 h3 h4 h5 h6 => by rw [← ha6, qu_o _ _ _ _ _ h6, ← ha5, qu_o _ _ _ _ _ h5, ← ha4, qu_o _ _ _ _ _ h4, ← ha3, qu_o _ _ _ _ _ h3, ← ha2, qu_o _ _ _ _ _ h2, ← ha1, qu_o _ _ _ _ _ h1]
  have hP6 : qP a6 := hP1.same fun q hq => by
    have n := qPt_n q hq
    rw [a6o q.1 (by omega) (by omega) (by omega) (by omega) (by omega) (by omega)]
  obtain ⟨m7, r7, g7, o7⟩ := r_addCopy e Z b (n : Int) (i : Int) E k hK (fW i).length w21.2 kr (fW i).length 0 a6 vu vu (vi (qah_ t0 (fp i) i)) hP6 (by rw [b6, x36]) (by omega)
  have r7 : zF_255 e 165 [vr 37, vi b, vi (n : Int), vu, vu, vi (qah_ t0 (fp i) i), vi (i : Int), vi E, vi k, vi 0] [] (qW Z a6) = zF_255 e 200 [vr 37, vi b, vi (n : Int), vu, vu, vu, vi (i : Int), vi E, vi k, vi ((fW i).length : Int)] [] (qW Z m7) := r7
  have o7' : ∀ z, z ≠ 58 → m7 z = a6 z := o7
  have u22 : m7 37 22 = 54 := by rw [o7' 37 (by decide), b6, p22]
  have u54 : m7 54 b = (J0 : Int) + i := by rw [o7' 54 (by decide), a6o 54 (by decide) (by decide) (by decide) (by decide) (by decide) (by decide), v54]
  have z3 : z32 ((J0 : Int) + i + 1) = (J0 : Int) + i + 1 := q32 (by omega)
  obtain ⟨m8, hm8⟩ : ∃ M, qu m7 54 b ((J0 : Int) + i + 1) = M := ⟨_, rfl⟩
  have o8 : ∀ z, z ≠ 54 → m8 z = m7 z := fun z hz => by rw [← hm8, qu_o _ _ _ _ _ hz]
  have O8 : ∀ z, z ≠ 54 → z ≠ 58 → z ≠ 55 → z ≠ 56 → z ≠ 57 → z ≠ 59 → z ≠ 60 → z ≠ 61 → m8 z = m1 z := fun z h1 h2 h3 h4 h5 h6 h7 h8 => by rw [o8 z h1, o7' z h2, a6o z h3 h4 h5 h6 h7 h8]
  have hP8 : qP m8 := hP1.same fun q hq => by
    have n := qPt_n q hq
    rw [O8 q.1 (by omega) (by omega) (by omega) (by omega) (by omega) (by omega) (by omega) (by omega)]
  have e82 : m8 37 2 = N := by rw [O8 37 (by decide) (by decide) (by decide) (by decide) (by decide) (by decide) (by decide) (by decide), f1 37 2 (by omega), r1 37 2 (by omega), h2]
  have e838 : m8 38 = t0 := by
    rw [O8 38 (by decide) (by decide) (by decide) (by decide) (by decide) (by decide) (by decide) (by decide), ← h38]
    exact funext fun q => by rw [f1 38 q (by omega), r1 38 q (by omega)]
  have E01 : 0 ≤ E ∧ 1 ≤ e := by omega
  have sg := r_signAt e (qW Z m8) E (by omega) (by omega) hK hP8 ⟨by show 0 ≤ m8 37 2; rw [e82]; omega, by show m8 37 2 ≤ 60; rw [e82]; omega, fun j j1 j2 => by
    have j2 : j < m8 37 2 := j2
    show 0 ≤ m8 38 j ∧ m8 38 j < 65536
    rw [e838, ← s38]
    exact hRT.2.2.2 j j1 (by rw [s2, ← e82]; exact j2)⟩
  obtain ⟨sv, hsv⟩ : ∃ sv, qms (zm (qW Z m8)) E = sv := ⟨_, rfl⟩
  rw [hsv] at sg
  have svE : E < N → sv = t0 E := fun q => by
    rw [← hsv]
    show qsg (m8 38) (m8 37 2) E = _
    rw [qsg_lt (by rw [e82]; exact q), e838]
  have fE : fp (i + 1) = E + 1 := by omega
  have zE : z32 (E + 1) = E + 1 := q32 (by omega)
  have zi := z32_n hi (show n ≤ 80 from Nat.le_trans (Nat.le_add_left n J0) hJ)
  have hin : (i : Int) < (n : Int) := Int.ofNat_lt.mpr hi
  have st01 : 0 ≤ fs i ∧ fs i ≤ 1 := by omega
  refine ⟨m8, if sv = 47 then 1 else if sv = 124 then 2 else 0, E, ?_, fun q => ?_, ?_⟩
  · rw [fE]
    exact (r_addRunA e Z m m1 a1 a2 a3 a4 a5 a6 m7 b n i (fp i) E k ((J0 : Int) + i) (fs i) (fd i) (fb i) ((fW i).length : Int) (fm i) (qah_ t0 (fp i) i) x3 x7 x8 x9 hK hin rt p22 v54 z1 z2 p23 x32 ha1 p24 c33 ha2 p25 c34 ha3 p27 c36 ha4 p28 c37 ha5 p29 ha6 r7 kr.1 kr.2 hb0.1 hb st01.1 st01.2 rdg.1 rdg.2).trans (r_addRunB e Z m7 m8 b n i E k ((J0 : Int) + i) ((fW i).length : Int) sv ((i + 1 : Nat) : Int) hK u22 u54 z3 hm8 sg zE zi hb0.1 hb)
  · unfold qah_
    rw [if_neg (Nat.succ_ne_zero i), hE, svE (q4 q).1]
  · exact r_addEnd ⟨r1, ⟨r2, r2'⟩, r3, r4, r5⟩ hb0.1 f1 hk ha1 ha2 ha3 ha4 ha5 ha6 g7 o7' hm8 w21.2 wdg x64 (fun k' hk' => (tx k' (Nat.lt_trans hk' hi)).2.2.2.1.1.2)
theorem r_addLoop (e : Nat) (Z : zS) (M0 : Int → Int → Int) (he : 6 ≤ e) (hH : qHC S) (h : qAdH S b x c a g w t Nc T J0 n t0 N fp fW fd fs fb fm pp gL gE gA gU gM) (hK : qK Z) (hP0 : qP M0) (h2 : M0 37 2 = N) (h38 : M0 38 = t0) (h12 : 0 ≤ M0 37 12 ∧ M0 37 12 ≤ 12) (hb : b < 4) :
    ∀ (G i : Nat) (m : Int → Int → Int) (vf va : Int) (x3 x7 x8 x9 : zV), i + G = n → (i < n → vf = fp i ∧ va = qah_ t0 (fp i) i) → qAdR M0 m b J0 i t0 fp fW fd fs fb fm → ∃ m', zF_255 e 71 [vr 37, vi b, vi (n : Int), x3, vi vf, vi va, vi (i : Int), x7, x8, x9] [] (qW Z m) = some (.inl (some (vi ((J0 : Int) + n))), qW Z (qu m' 37 2 0)) ∧ qAdR M0 m' b J0 n t0 fp fW fd fs fb fm := by
  intro G
  induction G with
  | zero =>
    intro i m vf va x3 x7 x8 x9 hi _ hA
    obtain rfl : i = n := by omega
    refine ⟨m, ?_, hA⟩
    obtain ⟨r1, ⟨r2, -⟩, -⟩ := hA
    have hb0 := h.1.1
    have p22 : qu m 37 2 0 37 22 = 54 := by rw [qu_i _ _ _ _ _ (by decide), r1 37 22 (by omega)]; exact P_37_22 hP0
    have v54 : qu m 37 2 0 54 b = (J0 : Int) + i := by rw [qu_o _ _ _ _ _ (by decide), r2]
    rw [b255_71]
    simp (config := { maxSteps := 2000000 }) (disch := first | omega | (simp only [K_37 hK, K_54 hK, p22, hb0.1, hb, qb_in, qkW, qmW, qnW, true_and, and_true, or_self, true_or, or_true, and_self]; done) | (simp only [K_37 hK, K_54 hK, p22, hb0.1, hb, qb_in, qkW, qmW, qnW, true_and, and_true, or_self, true_or, or_true, and_self]; omega)) only [b255_0, b255_4, b255_10, b255_16, b255_20, b255_24, b255_28, b255_41, b255_46, b255_49, b255_53, b255_54, b255_57, b255_60, b255_62, b255_77, b255_83, b255_98, b255_116, b255_135, b255_153, b255_174, b255_192, b255_213, b255_216, b255_221, b255_225, b255_231, b255_236, b255_240, b255_241, b255_255, qcall_l, qcall_r, qretn_l, qJ_s, qJ_n, qV0, qEx, ↓qif0, ↓zchk_pos, ↓reduceIte, qput, qWW, qmW, qkW, qnW, K_37 hK, K_54 hK, if_neg (show ¬ (i : Int) < i from Int.lt_irrefl _), p22, v54]
  | succ G ih =>
    intro i m vf va x3 x7 x8 x9 hi hv hA
    obtain ⟨rfl, rfl⟩ := hv (by omega)
    obtain ⟨m1, va1, x7', r1, v1, A1⟩ := r_addStep e Z M0 m i x3 x7 x8 x9 he hH h (by omega) hK hP0 h2 h38 h12 hb hA
    obtain ⟨m2, r2, A2⟩ := ih (i + 1) m1 (fp (i + 1)) va1 vu (vi x7') vu vu (by omega) (fun q => ⟨rfl, v1 q⟩) A1
    exact ⟨m2, by rw [r1, r2], A2⟩
end
