/-! What is told of a book: the class alone. -/
theorem c_133_0 (e : Nat) (S : zS) (b j y : Int) (he : 14 ≤ e) (hH : qHC S) (c1 : 0 ≤ b ∧ b < zm S 37 16) (c2 : 0 ≤ j ∧ j < zm S 54 b) (hy : zm S (zm S 8 b + 1) j = y) : zD (e + 1) 133 [vr 3, vi b, vi j, vi 0] S = some (.inl (some (vi (zm S (y + 3) 1))), S) := by
  obtain ⟨⟨⟨⟨hK, hP, hL, hn⟩, ⟨hT, hC, hR, hk⟩, hPo, hY⟩, hBB⟩, hYC, hFc⟩ := id hH
  obtain ⟨⟨a1, a2, a3, a4, a5⟩, -, -, ⟨x3, wr⟩, ⟨x4, tr⟩, -, x6, ⟨x7, n0, n80⟩, x8, -⟩ := hY.2.1 b c1.1 c1.2
  have bo := s_bookOf_y e S b (by omega) hK hP hY.1 c1
  have hKb : qK (zbump S) := hK
  have hbn : b < 4 := by have := hY.1.2; omega
  have p22 := P_37_22 hP
  have ibb := r_isbook_y e (zbump S) b (by omega) hKb hY.1.2 c1
  have z1 : z32 (zm S 54 b - 1) = zm S 54 b - 1 := q32 (by omega)
  obtain ⟨J, fL, fE, fA, fU, fM, P, ll, w0, -⟩ := hBB b c1.1 c1.2
  obtain ⟨w1, -⟩ := w0.2.1 j.toNat (by have := w0.1.1; omega)
  rw [show ((j.toNat : Nat) : Int) = j by omega] at w1
  obtain ⟨⟨⟨ky, -, -, ky3, -, -⟩, ⟨y0, -, y1, -, -⟩, y103, yn⟩, -⟩ := qWw_b w1
  clear w0 w1
  rw [hy] at ky ky3 y0 y1 y103 yn
  simp (config := { maxSteps := 2000000 }) (disch := first | omega | (simp only [K_3 hK, a1, a2, x6, ky, y1, ky3, qb_in, qkW, qmW, qnW, true_and, and_true, or_self, true_or, or_true, and_self]; done) | (simp only [K_3 hK, a1, a2, x6, ky, y1, ky3, qb_in, qkW, qmW, qnW, true_and, and_true, or_self, true_or, or_true, and_self]; omega)) only [zD_133, b133_0, b133_5, b133_11, b133_20, b133_31, b133_88, b133_97, b133_108, b133_112, b133_113, b133_114, b133_120, b133_126, b133_132, b133_138, b133_144, b133_153, i133, w133_41, qcall_l, qcall_r, qretn_l, qJ_s, qJ_n, qV0, qEx, ↓qif0, ↓zchk_pos, ↓reduceIte, qput, qWW, qmW, qkW, qnW, K_3 hK, bo, if_neg (show ¬ j < 0 by omega), a1, a2, x6, x7, if_pos c2.2, hy, w133_41, Int.reduceEq, ky, y1, ky3]
theorem c_133_2 (e : Nat) (S : zS) (b j y : Int) (he : 14 ≤ e) (hH : qHC S) (c1 : 0 ≤ b ∧ b < zm S 37 16) (c2 : 0 ≤ j ∧ j < zm S 54 b) (hy : zm S (zm S 8 b + 1) j = y) : zD (e + 1) 133 [vr 3, vi b, vi j, vi 2] S = some (.inl (some (vi (zm S y 2))), S) := by
  obtain ⟨⟨⟨⟨hK, hP, hL, hn⟩, ⟨hT, hC, hR, hk⟩, hPo, hY⟩, hBB⟩, hYC, hFc⟩ := id hH
  obtain ⟨⟨a1, a2, a3, a4, a5⟩, -, -, ⟨x3, wr⟩, ⟨x4, tr⟩, -, x6, ⟨x7, n0, n80⟩, x8, -⟩ := hY.2.1 b c1.1 c1.2
  have bo := s_bookOf_y e S b (by omega) hK hP hY.1 c1
  have hKb : qK (zbump S) := hK
  have hbn : b < 4 := by have := hY.1.2; omega
  have p22 := P_37_22 hP
  have ibb := r_isbook_y e (zbump S) b (by omega) hKb hY.1.2 c1
  have z1 : z32 (zm S 54 b - 1) = zm S 54 b - 1 := q32 (by omega)
  obtain ⟨J, fL, fE, fA, fU, fM, P, ll, w0, -⟩ := hBB b c1.1 c1.2
  obtain ⟨w1, -⟩ := w0.2.1 j.toNat (by have := w0.1.1; omega)
  rw [show ((j.toNat : Nat) : Int) = j by omega] at w1
  obtain ⟨⟨⟨ky, -, -, ky3, -, -⟩, ⟨y0, -, y1, -, -⟩, y103, yn⟩, -⟩ := qWw_b w1
  clear w0 w1
  rw [hy] at ky ky3 y0 y1 y103 yn
  simp (config := { maxSteps := 2000000 }) (disch := first | omega | (simp only [K_3 hK, a1, a2, x6, ky, y1, ky3, qb_in, qkW, qmW, qnW, true_and, and_true, or_self, true_or, or_true, and_self]; done) | (simp only [K_3 hK, a1, a2, x6, ky, y1, ky3, qb_in, qkW, qmW, qnW, true_and, and_true, or_self, true_or, or_true, and_self]; omega)) only [zD_133, b133_0, b133_5, b133_11, b133_20, b133_31, b133_88, b133_97, b133_108, b133_112, b133_113, b133_114, b133_120, b133_126, b133_132, b133_138, b133_144, b133_153, i133, w133_41, qcall_l, qcall_r, qretn_l, qJ_s, qJ_n, qV0, qEx, ↓qif0, ↓zchk_pos, ↓reduceIte, qput, qWW, qmW, qkW, qnW, K_3 hK, bo, if_neg (show ¬ j < 0 by omega), a1, a2, x6, x7, if_pos c2.2, hy, w133_41, Int.reduceEq, ky, y1, ky3]
theorem c_133_3 (e : Nat) (S : zS) (b j y : Int) (he : 14 ≤ e) (hH : qHC S) (c1 : 0 ≤ b ∧ b < zm S 37 16) (c2 : 0 ≤ j ∧ j < zm S 54 b) (hy : zm S (zm S 8 b + 1) j = y) : zD (e + 1) 133 [vr 3, vi b, vi j, vi 3] S = some (.inl (some (vi (zm S y 3))), S) := by
  obtain ⟨⟨⟨⟨hK, hP, hL, hn⟩, ⟨hT, hC, hR, hk⟩, hPo, hY⟩, hBB⟩, hYC, hFc⟩ := id hH
  obtain ⟨⟨a1, a2, a3, a4, a5⟩, -, -, ⟨x3, wr⟩, ⟨x4, tr⟩, -, x6, ⟨x7, n0, n80⟩, x8, -⟩ := hY.2.1 b c1.1 c1.2
  have bo := s_bookOf_y e S b (by omega) hK hP hY.1 c1
  have hKb : qK (zbump S) := hK
  have hbn : b < 4 := by have := hY.1.2; omega
  have p22 := P_37_22 hP
  have ibb := r_isbook_y e (zbump S) b (by omega) hKb hY.1.2 c1
  have z1 : z32 (zm S 54 b - 1) = zm S 54 b - 1 := q32 (by omega)
  obtain ⟨J, fL, fE, fA, fU, fM, P, ll, w0, -⟩ := hBB b c1.1 c1.2
  obtain ⟨w1, -⟩ := w0.2.1 j.toNat (by have := w0.1.1; omega)
  rw [show ((j.toNat : Nat) : Int) = j by omega] at w1
  obtain ⟨⟨⟨ky, -, -, ky3, -, -⟩, ⟨y0, -, y1, -, -⟩, y103, yn⟩, -⟩ := qWw_b w1
  clear w0 w1
  rw [hy] at ky ky3 y0 y1 y103 yn
  simp (config := { maxSteps := 2000000 }) (disch := first | omega | (simp only [K_3 hK, a1, a2, x6, ky, y1, ky3, qb_in, qkW, qmW, qnW, true_and, and_true, or_self, true_or, or_true, and_self]; done) | (simp only [K_3 hK, a1, a2, x6, ky, y1, ky3, qb_in, qkW, qmW, qnW, true_and, and_true, or_self, true_or, or_true, and_self]; omega)) only [zD_133, b133_0, b133_5, b133_11, b133_20, b133_31, b133_88, b133_97, b133_108, b133_112, b133_113, b133_114, b133_120, b133_126, b133_132, b133_138, b133_144, b133_153, i133, w133_41, qcall_l, qcall_r, qretn_l, qJ_s, qJ_n, qV0, qEx, ↓qif0, ↓zchk_pos, ↓reduceIte, qput, qWW, qmW, qkW, qnW, K_3 hK, bo, if_neg (show ¬ j < 0 by omega), a1, a2, x6, x7, if_pos c2.2, hy, w133_41, Int.reduceEq, ky, y1, ky3]
theorem c_133_4 (e : Nat) (S : zS) (b j y : Int) (he : 14 ≤ e) (hH : qHC S) (c1 : 0 ≤ b ∧ b < zm S 37 16) (c2 : 0 ≤ j ∧ j < zm S 54 b) (hy : zm S (zm S 8 b + 1) j = y) : zD (e + 1) 133 [vr 3, vi b, vi j, vi 4] S = some (.inl (some (vi (zm S y 4))), S) := by
  obtain ⟨⟨⟨⟨hK, hP, hL, hn⟩, ⟨hT, hC, hR, hk⟩, hPo, hY⟩, hBB⟩, hYC, hFc⟩ := id hH
  obtain ⟨⟨a1, a2, a3, a4, a5⟩, -, -, ⟨x3, wr⟩, ⟨x4, tr⟩, -, x6, ⟨x7, n0, n80⟩, x8, -⟩ := hY.2.1 b c1.1 c1.2
  have bo := s_bookOf_y e S b (by omega) hK hP hY.1 c1
  have hKb : qK (zbump S) := hK
  have hbn : b < 4 := by have := hY.1.2; omega
  have p22 := P_37_22 hP
  have ibb := r_isbook_y e (zbump S) b (by omega) hKb hY.1.2 c1
  have z1 : z32 (zm S 54 b - 1) = zm S 54 b - 1 := q32 (by omega)
  obtain ⟨J, fL, fE, fA, fU, fM, P, ll, w0, -⟩ := hBB b c1.1 c1.2
  obtain ⟨w1, -⟩ := w0.2.1 j.toNat (by have := w0.1.1; omega)
  rw [show ((j.toNat : Nat) : Int) = j by omega] at w1
  obtain ⟨⟨⟨ky, -, -, ky3, -, -⟩, ⟨y0, -, y1, -, -⟩, y103, yn⟩, -⟩ := qWw_b w1
  clear w0 w1
  rw [hy] at ky ky3 y0 y1 y103 yn
  simp (config := { maxSteps := 2000000 }) (disch := first | omega | (simp only [K_3 hK, a1, a2, x6, ky, y1, ky3, qb_in, qkW, qmW, qnW, true_and, and_true, or_self, true_or, or_true, and_self]; done) | (simp only [K_3 hK, a1, a2, x6, ky, y1, ky3, qb_in, qkW, qmW, qnW, true_and, and_true, or_self, true_or, or_true, and_self]; omega)) only [zD_133, b133_0, b133_5, b133_11, b133_20, b133_31, b133_88, b133_97, b133_108, b133_112, b133_113, b133_114, b133_120, b133_126, b133_132, b133_138, b133_144, b133_153, i133, w133_41, qcall_l, qcall_r, qretn_l, qJ_s, qJ_n, qV0, qEx, ↓qif0, ↓zchk_pos, ↓reduceIte, qput, qWW, qmW, qkW, qnW, K_3 hK, bo, if_neg (show ¬ j < 0 by omega), a1, a2, x6, x7, if_pos c2.2, hy, w133_41, Int.reduceEq, ky, y1, ky3]
theorem c_133_5 (e : Nat) (S : zS) (b j y : Int) (he : 14 ≤ e) (hH : qHC S) (c1 : 0 ≤ b ∧ b < zm S 37 16) (c2 : 0 ≤ j ∧ j < zm S 54 b) (hy : zm S (zm S 8 b + 1) j = y) : zD (e + 1) 133 [vr 3, vi b, vi j, vi 5] S = some (.inl (some (vi (zm S y 5))), S) := by
  obtain ⟨⟨⟨⟨hK, hP, hL, hn⟩, ⟨hT, hC, hR, hk⟩, hPo, hY⟩, hBB⟩, hYC, hFc⟩ := id hH
  obtain ⟨⟨a1, a2, a3, a4, a5⟩, -, -, ⟨x3, wr⟩, ⟨x4, tr⟩, -, x6, ⟨x7, n0, n80⟩, x8, -⟩ := hY.2.1 b c1.1 c1.2
  have bo := s_bookOf_y e S b (by omega) hK hP hY.1 c1
  have hKb : qK (zbump S) := hK
  have hbn : b < 4 := by have := hY.1.2; omega
  have p22 := P_37_22 hP
  have ibb := r_isbook_y e (zbump S) b (by omega) hKb hY.1.2 c1
  have z1 : z32 (zm S 54 b - 1) = zm S 54 b - 1 := q32 (by omega)
  obtain ⟨J, fL, fE, fA, fU, fM, P, ll, w0, -⟩ := hBB b c1.1 c1.2
  obtain ⟨w1, -⟩ := w0.2.1 j.toNat (by have := w0.1.1; omega)
  rw [show ((j.toNat : Nat) : Int) = j by omega] at w1
  obtain ⟨⟨⟨ky, -, -, ky3, -, -⟩, ⟨y0, -, y1, -, -⟩, y103, yn⟩, -⟩ := qWw_b w1
  clear w0 w1
  rw [hy] at ky ky3 y0 y1 y103 yn
  simp (config := { maxSteps := 2000000 }) (disch := first | omega | (simp only [K_3 hK, a1, a2, x6, ky, y1, ky3, qb_in, qkW, qmW, qnW, true_and, and_true, or_self, true_or, or_true, and_self]; done) | (simp only [K_3 hK, a1, a2, x6, ky, y1, ky3, qb_in, qkW, qmW, qnW, true_and, and_true, or_self, true_or, or_true, and_self]; omega)) only [zD_133, b133_0, b133_5, b133_11, b133_20, b133_31, b133_88, b133_97, b133_108, b133_112, b133_113, b133_114, b133_120, b133_126, b133_132, b133_138, b133_144, b133_153, i133, w133_41, qcall_l, qcall_r, qretn_l, qJ_s, qJ_n, qV0, qEx, ↓qif0, ↓zchk_pos, ↓reduceIte, qput, qWW, qmW, qkW, qnW, K_3 hK, bo, if_neg (show ¬ j < 0 by omega), a1, a2, x6, x7, if_pos c2.2, hy, w133_41, Int.reduceEq, ky, y1, ky3]
theorem c_133_6 (e : Nat) (S : zS) (b j y : Int) (he : 14 ≤ e) (hH : qHC S) (c1 : 0 ≤ b ∧ b < zm S 37 16) (c2 : 0 ≤ j ∧ j < zm S 54 b) (hy : zm S (zm S 8 b + 1) j = y) : zD (e + 1) 133 [vr 3, vi b, vi j, vi 6] S = some (.inl (some (vi (zm S y 6))), S) := by
  obtain ⟨⟨⟨⟨hK, hP, hL, hn⟩, ⟨hT, hC, hR, hk⟩, hPo, hY⟩, hBB⟩, hYC, hFc⟩ := id hH
  obtain ⟨⟨a1, a2, a3, a4, a5⟩, -, -, ⟨x3, wr⟩, ⟨x4, tr⟩, -, x6, ⟨x7, n0, n80⟩, x8, -⟩ := hY.2.1 b c1.1 c1.2
  have bo := s_bookOf_y e S b (by omega) hK hP hY.1 c1
  have hKb : qK (zbump S) := hK
  have hbn : b < 4 := by have := hY.1.2; omega
  have p22 := P_37_22 hP
  have ibb := r_isbook_y e (zbump S) b (by omega) hKb hY.1.2 c1
  have z1 : z32 (zm S 54 b - 1) = zm S 54 b - 1 := q32 (by omega)
  obtain ⟨J, fL, fE, fA, fU, fM, P, ll, w0, -⟩ := hBB b c1.1 c1.2
  obtain ⟨w1, -⟩ := w0.2.1 j.toNat (by have := w0.1.1; omega)
  rw [show ((j.toNat : Nat) : Int) = j by omega] at w1
  obtain ⟨⟨⟨ky, -, -, ky3, -, -⟩, ⟨y0, -, y1, -, -⟩, y103, yn⟩, -⟩ := qWw_b w1
  clear w0 w1
  rw [hy] at ky ky3 y0 y1 y103 yn
  simp (config := { maxSteps := 2000000 }) (disch := first | omega | (simp only [K_3 hK, a1, a2, x6, ky, y1, ky3, qb_in, qkW, qmW, qnW, true_and, and_true, or_self, true_or, or_true, and_self]; done) | (simp only [K_3 hK, a1, a2, x6, ky, y1, ky3, qb_in, qkW, qmW, qnW, true_and, and_true, or_self, true_or, or_true, and_self]; omega)) only [zD_133, b133_0, b133_5, b133_11, b133_20, b133_31, b133_88, b133_97, b133_108, b133_112, b133_113, b133_114, b133_120, b133_126, b133_132, b133_138, b133_144, b133_153, i133, w133_41, qcall_l, qcall_r, qretn_l, qJ_s, qJ_n, qV0, qEx, ↓qif0, ↓zchk_pos, ↓reduceIte, qput, qWW, qmW, qkW, qnW, K_3 hK, bo, if_neg (show ¬ j < 0 by omega), a1, a2, x6, x7, if_pos c2.2, hy, w133_41, Int.reduceEq, ky, y1, ky3]
theorem c_134_0 (e : Nat) (S : zS) (b : Int) (he : 16 ≤ e) (hH : qHC S) (c1 : 0 ≤ b ∧ b < zm S 37 16) : zD (e + 1) 134 [vr 3, vi b, vi 0] S = some (.inl (some (vi (zm S 54 b))), S) := by
  obtain ⟨⟨⟨⟨hK, hP, hL, hn⟩, ⟨hT, hC, hR, hk⟩, hPo, hY⟩, hBB⟩, hYC, hFc⟩ := id hH
  obtain ⟨⟨a1, a2, a3, a4, a5⟩, -, -, ⟨x3, wr⟩, ⟨x4, tr⟩, -, x6, ⟨x7, n0, n80⟩, x8, -⟩ := hY.2.1 b c1.1 c1.2
  have bo := s_bookOf_y e S b (by omega) hK hP hY.1 c1
  have hbn : b < 4 := by have := hY.1.2; omega
  simp (config := { maxSteps := 2000000 }) (disch := first | omega | (simp only [K_3 hK, a1, qb_in, qkW, qmW, qnW, true_and, and_true, or_self, true_or, or_true, and_self]; done) | (simp only [K_3 hK, a1, qb_in, qkW, qmW, qnW, true_and, and_true, or_self, true_or, or_true, and_self]; omega)) only [zD_134, b134_0, b134_5, b134_44, b134_49, b134_54, b134_59, b134_64, b134_69, b134_74, i134, w134_7, qcall_l, qcall_r, qretn_l, qJ_s, qJ_n, qV0, qEx, ↓qif0, ↓zchk_pos, ↓reduceIte, qput, qWW, qmW, qkW, qnW, K_3 hK, bo, w134_7, Int.reduceEq, a1, x7]
theorem c_134_1 (e : Nat) (S : zS) (b : Int) (he : 16 ≤ e) (hH : qHC S) (c1 : 0 ≤ b ∧ b < zm S 37 16) : zD (e + 1) 134 [vr 3, vi b, vi 1] S = some (.inl (some (vi (zm S (zm S 8 b) 9))), S) := by
  obtain ⟨⟨⟨⟨hK, hP, hL, hn⟩, ⟨hT, hC, hR, hk⟩, hPo, hY⟩, hBB⟩, hYC, hFc⟩ := id hH
  obtain ⟨⟨a1, a2, a3, a4, a5⟩, -, -, ⟨x3, wr⟩, ⟨x4, tr⟩, -, x6, ⟨x7, n0, n80⟩, x8, -⟩ := hY.2.1 b c1.1 c1.2
  have bo := s_bookOf_y e S b (by omega) hK hP hY.1 c1
  have hbn : b < 4 := by have := hY.1.2; omega
  simp (config := { maxSteps := 2000000 }) (disch := first | omega | (simp only [K_3 hK, a1, qb_in, qkW, qmW, qnW, true_and, and_true, or_self, true_or, or_true, and_self]; done) | (simp only [K_3 hK, a1, qb_in, qkW, qmW, qnW, true_and, and_true, or_self, true_or, or_true, and_self]; omega)) only [zD_134, b134_0, b134_5, b134_44, b134_49, b134_54, b134_59, b134_64, b134_69, b134_74, i134, w134_7, qcall_l, qcall_r, qretn_l, qJ_s, qJ_n, qV0, qEx, ↓qif0, ↓zchk_pos, ↓reduceIte, qput, qWW, qmW, qkW, qnW, K_3 hK, bo, w134_7, Int.reduceEq, a1, a1]
theorem c_134_2 (e : Nat) (S : zS) (b : Int) (he : 16 ≤ e) (hH : qHC S) (c1 : 0 ≤ b ∧ b < zm S 37 16) : zD (e + 1) 134 [vr 3, vi b, vi 2] S = some (.inl (some (vi (zm S (zm S 8 b) 10))), S) := by
  obtain ⟨⟨⟨⟨hK, hP, hL, hn⟩, ⟨hT, hC, hR, hk⟩, hPo, hY⟩, hBB⟩, hYC, hFc⟩ := id hH
  obtain ⟨⟨a1, a2, a3, a4, a5⟩, -, -, ⟨x3, wr⟩, ⟨x4, tr⟩, -, x6, ⟨x7, n0, n80⟩, x8, -⟩ := hY.2.1 b c1.1 c1.2
  have bo := s_bookOf_y e S b (by omega) hK hP hY.1 c1
  have hbn : b < 4 := by have := hY.1.2; omega
  simp (config := { maxSteps := 2000000 }) (disch := first | omega | (simp only [K_3 hK, a1, qb_in, qkW, qmW, qnW, true_and, and_true, or_self, true_or, or_true, and_self]; done) | (simp only [K_3 hK, a1, qb_in, qkW, qmW, qnW, true_and, and_true, or_self, true_or, or_true, and_self]; omega)) only [zD_134, b134_0, b134_5, b134_44, b134_49, b134_54, b134_59, b134_64, b134_69, b134_74, i134, w134_7, qcall_l, qcall_r, qretn_l, qJ_s, qJ_n, qV0, qEx, ↓qif0, ↓zchk_pos, ↓reduceIte, qput, qWW, qmW, qkW, qnW, K_3 hK, bo, w134_7, Int.reduceEq, a1, a1]
theorem c_134_3 (e : Nat) (S : zS) (b : Int) (he : 16 ≤ e) (hH : qHC S) (c1 : 0 ≤ b ∧ b < zm S 37 16) : zD (e + 1) 134 [vr 3, vi b, vi 3] S = some (.inl (some (vi (zm S (zm S 8 b) 11))), S) := by
  obtain ⟨⟨⟨⟨hK, hP, hL, hn⟩, ⟨hT, hC, hR, hk⟩, hPo, hY⟩, hBB⟩, hYC, hFc⟩ := id hH
  obtain ⟨⟨a1, a2, a3, a4, a5⟩, -, -, ⟨x3, wr⟩, ⟨x4, tr⟩, -, x6, ⟨x7, n0, n80⟩, x8, -⟩ := hY.2.1 b c1.1 c1.2
  have bo := s_bookOf_y e S b (by omega) hK hP hY.1 c1
  have hbn : b < 4 := by have := hY.1.2; omega
  simp (config := { maxSteps := 2000000 }) (disch := first | omega | (simp only [K_3 hK, a1, qb_in, qkW, qmW, qnW, true_and, and_true, or_self, true_or, or_true, and_self]; done) | (simp only [K_3 hK, a1, qb_in, qkW, qmW, qnW, true_and, and_true, or_self, true_or, or_true, and_self]; omega)) only [zD_134, b134_0, b134_5, b134_44, b134_49, b134_54, b134_59, b134_64, b134_69, b134_74, i134, w134_7, qcall_l, qcall_r, qretn_l, qJ_s, qJ_n, qV0, qEx, ↓qif0, ↓zchk_pos, ↓reduceIte, qput, qWW, qmW, qkW, qnW, K_3 hK, bo, w134_7, Int.reduceEq, a1, a1]
theorem c_134_4 (e : Nat) (S : zS) (b : Int) (he : 16 ≤ e) (hH : qHC S) (c1 : 0 ≤ b ∧ b < zm S 37 16) : zD (e + 1) 134 [vr 3, vi b, vi 4] S = some (.inl (some (vi (zm S (zm S 8 b) 12))), S) := by
  obtain ⟨⟨⟨⟨hK, hP, hL, hn⟩, ⟨hT, hC, hR, hk⟩, hPo, hY⟩, hBB⟩, hYC, hFc⟩ := id hH
  obtain ⟨⟨a1, a2, a3, a4, a5⟩, -, -, ⟨x3, wr⟩, ⟨x4, tr⟩, -, x6, ⟨x7, n0, n80⟩, x8, -⟩ := hY.2.1 b c1.1 c1.2
  have bo := s_bookOf_y e S b (by omega) hK hP hY.1 c1
  have hbn : b < 4 := by have := hY.1.2; omega
  simp (config := { maxSteps := 2000000 }) (disch := first | omega | (simp only [K_3 hK, a1, qb_in, qkW, qmW, qnW, true_and, and_true, or_self, true_or, or_true, and_self]; done) | (simp only [K_3 hK, a1, qb_in, qkW, qmW, qnW, true_and, and_true, or_self, true_or, or_true, and_self]; omega)) only [zD_134, b134_0, b134_5, b134_44, b134_49, b134_54, b134_59, b134_64, b134_69, b134_74, i134, w134_7, qcall_l, qcall_r, qretn_l, qJ_s, qJ_n, qV0, qEx, ↓qif0, ↓zchk_pos, ↓reduceIte, qput, qWW, qmW, qkW, qnW, K_3 hK, bo, w134_7, Int.reduceEq, a1, a1]
theorem c_135 (e : Nat) (S : zS) (b p l c : Int) (he : 14 ≤ e) (hH : qHC S) (c1 : 0 ≤ b ∧ b < zm S 37 16) (c2 : (0 ≤ p ∧ p < zm S (zm S 8 b) 9) ∧ (0 ≤ l ∧ l < zm S 52 b) ∧ (0 ≤ c ∧ c < zm S 51 b)) : zD (e + 1) 135 [vr 3, vi b, vi p, vi l, vi c] S = some (.inl (some (vi (zm S (zm S 8 b + 2) ((p * zm S 52 b + l) * zm S 51 b + c)))), S) := by
  obtain ⟨⟨⟨hK, hP, hL, hn⟩, ⟨hT, hC, hR, hk⟩, hPo, hY⟩, hBB⟩ := id hH.1
  have hs := hY.2.1 b c1.1 c1.2
  obtain ⟨⟨a1, a2, a3, a4, a5⟩, -, -, ⟨x3, wr⟩, ⟨x4, tr⟩, -, -, -, x8, -⟩ := id hs
  have bo := s_bookOf_y e S b (by omega) hK hP hY.1 c1
  obtain ⟨J, fL, fE, fA, fU, fM, P, ll, w0, -⟩ := hBB b c1.1 c1.2
  obtain ⟨Pr, x9, -⟩ := qB0_P w0 wr.1 tr
  have hbn : b < 4 := by have := hY.1.2; omega
  have cp := s_checkPlace e S (zm S 8 b) _ _ _ p l c (by omega) a1 x3 x4 x9
  rw [x9] at c2
  rw [if_pos c2] at cp
  have cc := s_cellAt e S (zm S 8 b) _ _ p l c (by omega) a1 a3 x3 x4 x8 wr tr (by omega) c2.2.1 c2.2.2
  obtain ⟨v, hv⟩ : ∃ v, zm S (zm S 8 b + 2) ((p * zm S 52 b + l) * zm S 51 b + c) = v := ⟨_, rfl⟩
  rw [hv] at cc ⊢
  simp (config := { maxSteps := 2000000 }) (disch := first | omega | (simp only [K_3 hK, a1, qb_in, qkW, qmW, qnW, true_and, and_true, or_self, true_or, or_true, and_self]; done) | (simp only [K_3 hK, a1, qb_in, qkW, qmW, qnW, true_and, and_true, or_self, true_or, or_true, and_self]; omega)) only [zD_135, b135_0, b135_5, b135_16, b135_25, qcall_l, qcall_r, qretn_l, qJ_s, qJ_n, qV0, qEx, ↓qif0, ↓zchk_pos, ↓reduceIte, qput, qWW, qmW, qkW, qnW, K_3 hK, bo, cp, a1, cc]
theorem c_135_n (e : Nat) (S : zS) (b p l c : Int) (he : 14 ≤ e) (hH : qHC S) (c1 : 0 ≤ b ∧ b < zm S 37 16) (c2 : ¬ ((0 ≤ p ∧ p < zm S (zm S 8 b) 9) ∧ (0 ≤ l ∧ l < zm S 52 b) ∧ (0 ≤ c ∧ c < zm S 51 b))) : zD (e + 1) 135 [vr 3, vi b, vi p, vi l, vi c] S = some (.inr 2, zbump S) := by
  obtain ⟨⟨⟨hK, hP, hL, hn⟩, ⟨hT, hC, hR, hk⟩, hPo, hY⟩, hBB⟩ := id hH.1
  have hs := hY.2.1 b c1.1 c1.2
  obtain ⟨⟨a1, a2, a3, a4, a5⟩, -, -, ⟨x3, wr⟩, ⟨x4, tr⟩, -, -, -, x8, -⟩ := id hs
  have bo := s_bookOf_y e S b (by omega) hK hP hY.1 c1
  obtain ⟨J, fL, fE, fA, fU, fM, P, ll, w0, -⟩ := hBB b c1.1 c1.2
  obtain ⟨Pr, x9, -⟩ := qB0_P w0 wr.1 tr
  have hbn : b < 4 := by have := hY.1.2; omega
  have cp := s_checkPlace e S (zm S 8 b) _ _ _ p l c (by omega) a1 x3 x4 x9
  rw [x9] at c2
  rw [if_neg c2] at cp
  simp (config := { maxSteps := 2000000 }) (disch := first | omega | (simp only [K_3 hK, qb_in, qkW, qmW, qnW, true_and, and_true, or_self, true_or, or_true, and_self]; done) | (simp only [K_3 hK, qb_in, qkW, qmW, qnW, true_and, and_true, or_self, true_or, or_true, and_self]; omega)) only [zD_135, b135_0, b135_5, b135_16, b135_25, qcall_l, qcall_r, qretn_l, qJ_s, qJ_n, qV0, qEx, ↓qif0, ↓zchk_pos, ↓reduceIte, qput, qWW, qmW, qkW, qnW, K_3 hK, bo, cp]
