/-! Calls that name a book, a copy, a reader that is not there: both refuse. -/
def qNb (S : zS) : Prop := zm S 3 6 = zm S 37 16 ∧ 0 ≤ zm S 37 16 ∧ zm S 37 16 ≤ 4
def qNc (S : zS) : Prop := zm S 3 9 = zm S 37 65 ∧ 0 ≤ zm S 37 65 ∧ zm S 37 65 ≤ 20
def qNr (S : zS) : Prop := zm S 3 11 = zm S 37 76 ∧ 0 ≤ zm S 37 76 ∧ zm S 37 76 ≤ 6
def qNo (ps : Nat → Int) (S : zS) (R : zR) (F : zS → zR) : Prop := ∃ x, R = some (.inr x, zbump S) ∧ F (zbump S) = some (.inl (some (vi 0)), zbump (qW S (qu (zm S) 37 0 (ps x)))) ∧ ps x ≠ 0
theorem qUn_no {ps : Nat → Int} {S : zS} {R : zR} {F : zS → zR} {w : Int → Int} {Q : zS → Prop} (h : qNo ps S R F) (hQ : ∀ p, Q (zbump (qW S (qu (zm S) 37 0 p)))) : qUn vi w Q S R F ps := by
  obtain ⟨x, h1, h2, h3⟩ := h
  exact Or.inr ⟨x, 0, zbump S, _, h1, ⟨rfl, fun _ _ => rfl⟩, h2, ⟨by show qu (zm S) 37 0 (ps x) 1 = zm S 1; exact qu_o _ _ _ _ _ (by decide), fun _ _ => rfl⟩, by show qu (zm S) 37 0 (ps x) 37 0 = ps x; exact qu_s _ _ _ _, h3, hQ _⟩
theorem r_refuse (d : Nat) (S : zS) (p : Int) (h : 1 ≤ d) (hK : qK S) (hp : ¬ p = 0) : zD d 182 [vr 37, vi p] (zbump S) = some (.inl (some (vi 0)), qW (zbump S) (qu (zm S) 37 0 p)) := by
  have hd := r_holds d (zbump S) p h hK
  rw [qb_n hp] at hd
  exact hd
theorem s_bookOf_n (d : Nat) (S : zS) (c : Int) (h : 1 ≤ d) (hK : qK S) (hN : qNb S) (hc : ¬ (0 ≤ c ∧ c < zm S 37 16)) : zD d 153 [vr 3, vi c] S = some (.inr 2, zbump S) := by
  obtain ⟨e, rfl, -⟩ := qd h
  have c1 := hN.1
  by_cases h1 : c < 0
  · simp (config := { maxSteps := 2000000 }) (disch := first | omega | (simp only [K_3 hK, qb_in, qkW, qmW, qnW, true_and, and_true, or_self, true_or, or_true, and_self]; done) | (simp only [K_3 hK, qb_in, qkW, qmW, qnW, true_and, and_true, or_self, true_or, or_true, and_self]; omega)) only [zD_153, b153_0, b153_4, b153_12, b153_23, qcall_l, qcall_r, qretn_l, qJ_s, qJ_n, qV0, qEx, ↓qif0, ↓zchk_pos, ↓reduceIte, qput, qWW, qmW, qkW, qnW, K_3 hK, if_pos h1]
  · simp (config := { maxSteps := 2000000 }) (disch := first | omega | (simp only [K_3 hK, qb_in, qkW, qmW, qnW, true_and, and_true, or_self, true_or, or_true, and_self]; done) | (simp only [K_3 hK, qb_in, qkW, qmW, qnW, true_and, and_true, or_self, true_or, or_true, and_self]; omega)) only [zD_153, b153_0, b153_4, b153_12, b153_23, qcall_l, qcall_r, qretn_l, qJ_s, qJ_n, qV0, qEx, ↓qif0, ↓zchk_pos, ↓reduceIte, qput, qWW, qmW, qkW, qnW, K_3 hK, if_neg h1, c1, if_neg (show ¬ c < zm S 37 16 by omega)]
theorem s_bookOf_y (d : Nat) (S : zS) (c : Int) (h : 1 ≤ d) (hK : qK S) (hP : qP (zm S)) (hN : qNb S) (hc : 0 ≤ c ∧ c < zm S 37 16) : zD d 153 [vr 3, vi c] S = some (.inl (some (vr (zm S 8 c))), S) := by
  obtain ⟨e, rfl, -⟩ := qd h
  have c1 := hN.1
  have c2 := hN.2
  simp (config := { maxSteps := 2000000 }) (disch := first | omega | (simp only [K_3 hK, K_8 hK, P_3_5 hP, P_3_5 hP, qb_in, qkW, qmW, qnW, true_and, and_true, or_self, true_or, or_true, and_self]; done) | (simp only [K_3 hK, K_8 hK, P_3_5 hP, P_3_5 hP, qb_in, qkW, qmW, qnW, true_and, and_true, or_self, true_or, or_true, and_self]; omega)) only [zD_153, b153_0, b153_4, b153_12, b153_23, qcall_l, qcall_r, qretn_l, qJ_s, qJ_n, qV0, qEx, ↓qif0, ↓zchk_pos, ↓reduceIte, qput, qWW, qmW, qkW, qnW, K_3 hK, K_8 hK, P_3_5 hP, P_3_5 hP, if_neg (show ¬ c < 0 by omega), c1, if_pos hc.2]
theorem r_isbook (d : Nat) (S : zS) (c : Int) (h : 2 ≤ d) (hK : qK S) (r2 : 0 ≤ zm S 37 16 ∧ zm S 37 16 ≤ 4) : zD d 252 [vr 37, vi c] S = some (.inl (some (vi (qb (0 ≤ c ∧ c ≤ zm S 37 16 - 1)))), S) := by
  obtain ⟨e, rfl, h1⟩ := qd h
  have q := r_in e c 0 (zm S 37 16 - 1) S h1
  simp (config := { maxSteps := 2000000 }) (disch := first | omega | (simp only [K_37 hK, qb_in, qkW, qmW, qnW, true_and, and_true, or_self, true_or, or_true, and_self]; done) | (simp only [K_37 hK, qb_in, qkW, qmW, qnW, true_and, and_true, or_self, true_or, or_true, and_self]; omega)) only [zD_252, b252_0, b252_11, qcall_l, qcall_r, qretn_l, qJ_s, qJ_n, qV0, qEx, ↓qif0, ↓zchk_pos, ↓reduceIte, qput, qWW, qmW, qkW, qnW, K_37 hK, q32, q, qb_in]
theorem r_isbook_n (d : Nat) (S : zS) (c : Int) (h : 2 ≤ d) (hK : qK S) (r2 : 0 ≤ zm S 37 16 ∧ zm S 37 16 ≤ 4) (hc : ¬ (0 ≤ c ∧ c < zm S 37 16)) : zD d 252 [vr 37, vi c] (zbump S) = some (.inl (some (vi 0)), zbump S) := by
  have := r_isbook d (zbump S) c h hK r2
  rw [qb_n (show ¬ (0 ≤ c ∧ c ≤ zm (zbump S) 37 16 - 1) by show ¬ (0 ≤ c ∧ c ≤ zm S 37 16 - 1); omega)] at this
  exact this
theorem r_isbook_y (d : Nat) (S : zS) (c : Int) (h : 2 ≤ d) (hK : qK S) (r2 : 0 ≤ zm S 37 16 ∧ zm S 37 16 ≤ 4) (hc : 0 ≤ c ∧ c < zm S 37 16) : zD d 252 [vr 37, vi c] S = some (.inl (some (vi 1)), S) := by
  have := r_isbook d S c h hK r2
  rw [qb_p (show 0 ≤ c ∧ c ≤ zm S 37 16 - 1 by omega)] at this
  exact this
theorem s_copyOf_n (d : Nat) (S : zS) (c : Int) (h : 1 ≤ d) (hK : qK S) (hN : qNc S) (hc : ¬ (0 ≤ c ∧ c < zm S 37 65)) : zD d 154 [vr 3, vi c] S = some (.inr 2, zbump S) := by
  obtain ⟨e, rfl, -⟩ := qd h
  have c1 := hN.1
  by_cases h1 : c < 0
  · simp (config := { maxSteps := 2000000 }) (disch := first | omega | (simp only [K_3 hK, qb_in, qkW, qmW, qnW, true_and, and_true, or_self, true_or, or_true, and_self]; done) | (simp only [K_3 hK, qb_in, qkW, qmW, qnW, true_and, and_true, or_self, true_or, or_true, and_self]; omega)) only [zD_154, b154_0, b154_4, b154_12, b154_23, qcall_l, qcall_r, qretn_l, qJ_s, qJ_n, qV0, qEx, ↓qif0, ↓zchk_pos, ↓reduceIte, qput, qWW, qmW, qkW, qnW, K_3 hK, if_pos h1]
  · simp (config := { maxSteps := 2000000 }) (disch := first | omega | (simp only [K_3 hK, qb_in, qkW, qmW, qnW, true_and, and_true, or_self, true_or, or_true, and_self]; done) | (simp only [K_3 hK, qb_in, qkW, qmW, qnW, true_and, and_true, or_self, true_or, or_true, and_self]; omega)) only [zD_154, b154_0, b154_4, b154_12, b154_23, qcall_l, qcall_r, qretn_l, qJ_s, qJ_n, qV0, qEx, ↓qif0, ↓zchk_pos, ↓reduceIte, qput, qWW, qmW, qkW, qnW, K_3 hK, if_neg h1, c1, if_neg (show ¬ c < zm S 37 65 by omega)]
theorem s_copyOf_y (d : Nat) (S : zS) (c : Int) (h : 1 ≤ d) (hK : qK S) (hP : qP (zm S)) (hN : qNc S) (hc : 0 ≤ c ∧ c < zm S 37 65) : zD d 154 [vr 3, vi c] S = some (.inl (some (vr (zm S 13 c))), S) := by
  obtain ⟨e, rfl, -⟩ := qd h
  have c1 := hN.1
  have c2 := hN.2
  simp (config := { maxSteps := 2000000 }) (disch := first | omega | (simp only [K_3 hK, K_13 hK, P_3_8 hP, P_3_8 hP, qb_in, qkW, qmW, qnW, true_and, and_true, or_self, true_or, or_true, and_self]; done) | (simp only [K_3 hK, K_13 hK, P_3_8 hP, P_3_8 hP, qb_in, qkW, qmW, qnW, true_and, and_true, or_self, true_or, or_true, and_self]; omega)) only [zD_154, b154_0, b154_4, b154_12, b154_23, qcall_l, qcall_r, qretn_l, qJ_s, qJ_n, qV0, qEx, ↓qif0, ↓zchk_pos, ↓reduceIte, qput, qWW, qmW, qkW, qnW, K_3 hK, K_13 hK, P_3_8 hP, P_3_8 hP, if_neg (show ¬ c < 0 by omega), c1, if_pos hc.2]
theorem r_iscopy (d : Nat) (S : zS) (c : Int) (h : 2 ≤ d) (hK : qK S) (r2 : 0 ≤ zm S 37 65 ∧ zm S 37 65 ≤ 20) : zD d 277 [vr 37, vi c] S = some (.inl (some (vi (qb (0 ≤ c ∧ c ≤ zm S 37 65 - 1)))), S) := by
  obtain ⟨e, rfl, h1⟩ := qd h
  have q := r_in e c 0 (zm S 37 65 - 1) S h1
  simp (config := { maxSteps := 2000000 }) (disch := first | omega | (simp only [K_37 hK, qb_in, qkW, qmW, qnW, true_and, and_true, or_self, true_or, or_true, and_self]; done) | (simp only [K_37 hK, qb_in, qkW, qmW, qnW, true_and, and_true, or_self, true_or, or_true, and_self]; omega)) only [zD_277, b277_0, b277_11, qcall_l, qcall_r, qretn_l, qJ_s, qJ_n, qV0, qEx, ↓qif0, ↓zchk_pos, ↓reduceIte, qput, qWW, qmW, qkW, qnW, K_37 hK, q32, q, qb_in]
theorem r_iscopy_n (d : Nat) (S : zS) (c : Int) (h : 2 ≤ d) (hK : qK S) (r2 : 0 ≤ zm S 37 65 ∧ zm S 37 65 ≤ 20) (hc : ¬ (0 ≤ c ∧ c < zm S 37 65)) : zD d 277 [vr 37, vi c] (zbump S) = some (.inl (some (vi 0)), zbump S) := by
  have := r_iscopy d (zbump S) c h hK r2
  rw [qb_n (show ¬ (0 ≤ c ∧ c ≤ zm (zbump S) 37 65 - 1) by show ¬ (0 ≤ c ∧ c ≤ zm S 37 65 - 1); omega)] at this
  exact this
theorem r_iscopy_y (d : Nat) (S : zS) (c : Int) (h : 2 ≤ d) (hK : qK S) (r2 : 0 ≤ zm S 37 65 ∧ zm S 37 65 ≤ 20) (hc : 0 ≤ c ∧ c < zm S 37 65) : zD d 277 [vr 37, vi c] S = some (.inl (some (vi 1)), S) := by
  have := r_iscopy d S c h hK r2
  rw [qb_p (show 0 ≤ c ∧ c ≤ zm S 37 65 - 1 by omega)] at this
  exact this
theorem s_readerOf_n (d : Nat) (S : zS) (c : Int) (h : 1 ≤ d) (hK : qK S) (hN : qNr S) (hc : ¬ (0 ≤ c ∧ c < zm S 37 76)) : zD d 155 [vr 3, vi c] S = some (.inr 2, zbump S) := by
  obtain ⟨e, rfl, -⟩ := qd h
  have c1 := hN.1
  by_cases h1 : c < 0
  · simp (config := { maxSteps := 2000000 }) (disch := first | omega | (simp only [K_3 hK, qb_in, qkW, qmW, qnW, true_and, and_true, or_self, true_or, or_true, and_self]; done) | (simp only [K_3 hK, qb_in, qkW, qmW, qnW, true_and, and_true, or_self, true_or, or_true, and_self]; omega)) only [zD_155, b155_0, b155_4, b155_12, b155_23, qcall_l, qcall_r, qretn_l, qJ_s, qJ_n, qV0, qEx, ↓qif0, ↓zchk_pos, ↓reduceIte, qput, qWW, qmW, qkW, qnW, K_3 hK, if_pos h1]
  · simp (config := { maxSteps := 2000000 }) (disch := first | omega | (simp only [K_3 hK, qb_in, qkW, qmW, qnW, true_and, and_true, or_self, true_or, or_true, and_self]; done) | (simp only [K_3 hK, qb_in, qkW, qmW, qnW, true_and, and_true, or_self, true_or, or_true, and_self]; omega)) only [zD_155, b155_0, b155_4, b155_12, b155_23, qcall_l, qcall_r, qretn_l, qJ_s, qJ_n, qV0, qEx, ↓qif0, ↓zchk_pos, ↓reduceIte, qput, qWW, qmW, qkW, qnW, K_3 hK, if_neg h1, c1, if_neg (show ¬ c < zm S 37 76 by omega)]
theorem s_readerOf_y (d : Nat) (S : zS) (c : Int) (h : 1 ≤ d) (hK : qK S) (hP : qP (zm S)) (hN : qNr S) (hc : 0 ≤ c ∧ c < zm S 37 76) : zD d 155 [vr 3, vi c] S = some (.inl (some (vr (zm S 14 c))), S) := by
  obtain ⟨e, rfl, -⟩ := qd h
  have c1 := hN.1
  have c2 := hN.2
  simp (config := { maxSteps := 2000000 }) (disch := first | omega | (simp only [K_3 hK, K_14 hK, P_3_10 hP, P_3_10 hP, qb_in, qkW, qmW, qnW, true_and, and_true, or_self, true_or, or_true, and_self]; done) | (simp only [K_3 hK, K_14 hK, P_3_10 hP, P_3_10 hP, qb_in, qkW, qmW, qnW, true_and, and_true, or_self, true_or, or_true, and_self]; omega)) only [zD_155, b155_0, b155_4, b155_12, b155_23, qcall_l, qcall_r, qretn_l, qJ_s, qJ_n, qV0, qEx, ↓qif0, ↓zchk_pos, ↓reduceIte, qput, qWW, qmW, qkW, qnW, K_3 hK, K_14 hK, P_3_10 hP, P_3_10 hP, if_neg (show ¬ c < 0 by omega), c1, if_pos hc.2]
theorem r_isreader (d : Nat) (S : zS) (c : Int) (h : 2 ≤ d) (hK : qK S) (r2 : 0 ≤ zm S 37 76 ∧ zm S 37 76 ≤ 6) : zD d 289 [vr 37, vi c] S = some (.inl (some (vi (qb (0 ≤ c ∧ c ≤ zm S 37 76 - 1)))), S) := by
  obtain ⟨e, rfl, h1⟩ := qd h
  have q := r_in e c 0 (zm S 37 76 - 1) S h1
  simp (config := { maxSteps := 2000000 }) (disch := first | omega | (simp only [K_37 hK, qb_in, qkW, qmW, qnW, true_and, and_true, or_self, true_or, or_true, and_self]; done) | (simp only [K_37 hK, qb_in, qkW, qmW, qnW, true_and, and_true, or_self, true_or, or_true, and_self]; omega)) only [zD_289, b289_0, b289_11, qcall_l, qcall_r, qretn_l, qJ_s, qJ_n, qV0, qEx, ↓qif0, ↓zchk_pos, ↓reduceIte, qput, qWW, qmW, qkW, qnW, K_37 hK, q32, q, qb_in]
theorem r_isreader_n (d : Nat) (S : zS) (c : Int) (h : 2 ≤ d) (hK : qK S) (r2 : 0 ≤ zm S 37 76 ∧ zm S 37 76 ≤ 6) (hc : ¬ (0 ≤ c ∧ c < zm S 37 76)) : zD d 289 [vr 37, vi c] (zbump S) = some (.inl (some (vi 0)), zbump S) := by
  have := r_isreader d (zbump S) c h hK r2
  rw [qb_n (show ¬ (0 ≤ c ∧ c ≤ zm (zbump S) 37 76 - 1) by show ¬ (0 ≤ c ∧ c ≤ zm S 37 76 - 1); omega)] at this
  exact this
theorem r_isreader_y (d : Nat) (S : zS) (c : Int) (h : 2 ≤ d) (hK : qK S) (r2 : 0 ≤ zm S 37 76 ∧ zm S 37 76 ≤ 6) (hc : 0 ≤ c ∧ c < zm S 37 76) : zD d 289 [vr 37, vi c] S = some (.inl (some (vi 1)), S) := by
  have := r_isreader d S c h hK r2
  rw [qb_p (show 0 ≤ c ∧ c ≤ zm S 37 76 - 1 by omega)] at this
  exact this
theorem q_word_n (d : Nat) (S : zS) (b w x : Int) (h : 4 ≤ d) (hK : qK S) (hN : qNb S) (hc : ¬ (0 ≤ b ∧ b < zm S 37 16)) : qNo qpsD S (zD d 133 [vr 3, vi b, vi w, vi x] S) (zD d 268 [vr 37, vi b, vi w, vi x]) := by
  obtain ⟨e, rfl, h1⟩ := qd h
  have bo := s_bookOf_n e S b (by omega) hK hN hc
  have ib := r_isbook_n e S b (by omega) hK hN.2 hc
  have hd := r_refuse e S 1 (by omega) hK (by decide)
  have hKb : qK (zbump S) := hK
  refine ⟨2, ?_, ?_, by decide⟩
  · simp (config := { maxSteps := 2000000 }) (disch := first | omega | (simp only [K_3 hK, qb_in, qkW, qmW, qnW, true_and, and_true, or_self, true_or, or_true, and_self]; done) | (simp only [K_3 hK, qb_in, qkW, qmW, qnW, true_and, and_true, or_self, true_or, or_true, and_self]; omega)) only [zD_133, b133_0, b133_5, b133_11, b133_20, b133_31, b133_88, b133_97, b133_108, b133_112, b133_113, b133_114, b133_120, b133_126, b133_132, b133_138, b133_144, b133_153, i133, w133_41, qcall_l, qcall_r, qretn_l, qJ_s, qJ_n, qV0, qEx, ↓qif0, ↓zchk_pos, ↓reduceIte, qput, qWW, qmW, qkW, qnW, K_3 hK, bo]
  · simp (config := { maxSteps := 2000000 }) (disch := first | omega | (simp only [K_37 hKb, qb_in, qkW, qmW, qnW, true_and, and_true, or_self, true_or, or_true, and_self]; done) | (simp only [K_37 hKb, qb_in, qkW, qmW, qnW, true_and, and_true, or_self, true_or, or_true, and_self]; omega)) only [zD_268, b268_0, b268_5, b268_8, b268_21, b268_24, b268_28, b268_29, b268_37, b268_41, b268_48, b268_51, b268_55, b268_56, b268_59, b268_62, b268_64, b268_69, b268_84, b268_88, b268_97, b268_102, b268_111, b268_115, b268_119, b268_124, b268_136, b268_147, b268_148, b268_153, b268_162, b268_167, b268_176, b268_182, b268_191, b268_197, qcall_l, qcall_r, qretn_l, qJ_s, qJ_n, qV0, qEx, ↓qif0, ↓zchk_pos, ↓reduceIte, qput, qWW, qmW, qkW, qnW, K_37 hKb, ib, hd, Int.reduceEq]
    rfl
theorem q_ofBook_n (d : Nat) (S : zS) (b x : Int) (h : 4 ≤ d) (hK : qK S) (hN : qNb S) (hc : ¬ (0 ≤ b ∧ b < zm S 37 16)) : qNo qpsD S (zD d 134 [vr 3, vi b, vi x] S) (zD d 271 [vr 37, vi b, vi x]) := by
  obtain ⟨e, rfl, h1⟩ := qd h
  have bo := s_bookOf_n e S b (by omega) hK hN hc
  have ib := r_isbook_n e S b (by omega) hK hN.2 hc
  have hd := r_refuse e S 1 (by omega) hK (by decide)
  have hKb : qK (zbump S) := hK
  refine ⟨2, ?_, ?_, by decide⟩
  · simp (config := { maxSteps := 2000000 }) (disch := first | omega | (simp only [K_3 hK, qb_in, qkW, qmW, qnW, true_and, and_true, or_self, true_or, or_true, and_self]; done) | (simp only [K_3 hK, qb_in, qkW, qmW, qnW, true_and, and_true, or_self, true_or, or_true, and_self]; omega)) only [zD_134, b134_0, b134_5, b134_44, b134_49, b134_54, b134_59, b134_64, b134_69, b134_74, i134, w134_7, qcall_l, qcall_r, qretn_l, qJ_s, qJ_n, qV0, qEx, ↓qif0, ↓zchk_pos, ↓reduceIte, qput, qWW, qmW, qkW, qnW, K_3 hK, bo]
  · simp (config := { maxSteps := 2000000 }) (disch := first | omega | (simp only [K_37 hKb, qb_in, qkW, qmW, qnW, true_and, and_true, or_self, true_or, or_true, and_self]; done) | (simp only [K_37 hKb, qb_in, qkW, qmW, qnW, true_and, and_true, or_self, true_or, or_true, and_self]; omega)) only [zD_271, b271_0, b271_6, b271_9, b271_13, b271_19, b271_22, b271_26, b271_27, b271_30, b271_33, b271_35, b271_40, b271_46, b271_50, b271_59, b271_64, b271_68, b271_74, b271_75, b271_80, b271_87, b271_92, b271_97, b271_100, b271_105, qcall_l, qcall_r, qretn_l, qJ_s, qJ_n, qV0, qEx, ↓qif0, ↓zchk_pos, ↓reduceIte, qput, qWW, qmW, qkW, qnW, K_37 hKb, ib, hd, Int.reduceEq]
    rfl
theorem q_at_n (d : Nat) (S : zS) (b p l x : Int) (h : 4 ≤ d) (hK : qK S) (hN : qNb S) (hc : ¬ (0 ≤ b ∧ b < zm S 37 16)) : qNo qpsF S (zD d 135 [vr 3, vi b, vi p, vi l, vi x] S) (zD d 273 [vr 37, vi b, vi p, vi l, vi x]) := by
  obtain ⟨e, rfl, h1⟩ := qd h
  have bo := s_bookOf_n e S b (by omega) hK hN hc
  have ib := r_isbook_n e S b (by omega) hK hN.2 hc
  have hd := r_refuse e S 1 (by omega) hK (by decide)
  have hKb : qK (zbump S) := hK
  refine ⟨2, ?_, ?_, by decide⟩
  · simp (config := { maxSteps := 2000000 }) (disch := first | omega | (simp only [K_3 hK, qb_in, qkW, qmW, qnW, true_and, and_true, or_self, true_or, or_true, and_self]; done) | (simp only [K_3 hK, qb_in, qkW, qmW, qnW, true_and, and_true, or_self, true_or, or_true, and_self]; omega)) only [zD_135, b135_0, b135_5, b135_16, b135_25, qcall_l, qcall_r, qretn_l, qJ_s, qJ_n, qV0, qEx, ↓qif0, ↓zchk_pos, ↓reduceIte, qput, qWW, qmW, qkW, qnW, K_3 hK, bo]
  · simp (config := { maxSteps := 2000000 }) (disch := first | omega | (simp only [K_37 hKb, qb_in, qkW, qmW, qnW, true_and, and_true, or_self, true_or, or_true, and_self]; done) | (simp only [K_37 hKb, qb_in, qkW, qmW, qnW, true_and, and_true, or_self, true_or, or_true, and_self]; omega)) only [zD_273, b273_0, b273_6, b273_9, b273_18, b273_21, b273_25, b273_26, b273_29, b273_32, b273_34, b273_43, qcall_l, qcall_r, qretn_l, qJ_s, qJ_n, qV0, qEx, ↓qif0, ↓zchk_pos, ↓reduceIte, qput, qWW, qmW, qkW, qnW, K_37 hKb, ib, hd, Int.reduceEq]
    rfl
theorem q_felt_n (d : Nat) (S : zS) (c p l x : Int) (h : 4 ≤ d) (hK : qK S) (hN : qNc S) (hc : ¬ (0 ≤ c ∧ c < zm S 37 65)) : qNo qpsF S (zD d 138 [vr 3, vi c, vi p, vi l, vi x] S) (zD d 281 [vr 37, vi c, vi p, vi l, vi x]) := by
  obtain ⟨e, rfl, h1⟩ := qd h
  have bo := s_copyOf_n e S c (by omega) hK hN hc
  have ib := r_iscopy_n e S c (by omega) hK hN.2 hc
  have hd := r_refuse e S 1 (by omega) hK (by decide)
  have hKb : qK (zbump S) := hK
  refine ⟨2, ?_, ?_, by decide⟩
  · simp (config := { maxSteps := 2000000 }) (disch := first | omega | (simp only [K_3 hK, qb_in, qkW, qmW, qnW, true_and, and_true, or_self, true_or, or_true, and_self]; done) | (simp only [K_3 hK, qb_in, qkW, qmW, qnW, true_and, and_true, or_self, true_or, or_true, and_self]; omega)) only [zD_138, b138_0, b138_5, b138_19, b138_28, qcall_l, qcall_r, qretn_l, qJ_s, qJ_n, qV0, qEx, ↓qif0, ↓zchk_pos, ↓reduceIte, qput, qWW, qmW, qkW, qnW, K_3 hK, bo]
  · simp (config := { maxSteps := 2000000 }) (disch := first | omega | (simp only [K_37 hKb, qb_in, qkW, qmW, qnW, true_and, and_true, or_self, true_or, or_true, and_self]; done) | (simp only [K_37 hKb, qb_in, qkW, qmW, qnW, true_and, and_true, or_self, true_or, or_true, and_self]; omega)) only [zD_281, b281_0, b281_5, b281_8, b281_22, b281_25, b281_29, b281_30, b281_38, b281_42, b281_43, b281_46, b281_49, b281_51, b281_56, b281_65, qcall_l, qcall_r, qretn_l, qJ_s, qJ_n, qV0, qEx, ↓qif0, ↓zchk_pos, ↓reduceIte, qput, qWW, qmW, qkW, qnW, K_37 hKb, ib, hd, Int.reduceEq]
    rfl
theorem q_ofCopy_n (d : Nat) (S : zS) (c x : Int) (h : 4 ≤ d) (hK : qK S) (hN : qNc S) (hc : ¬ (0 ≤ c ∧ c < zm S 37 65)) : qNo qpsD S (zD d 139 [vr 3, vi c, vi x] S) (zD d 287 [vr 37, vi c, vi x]) := by
  obtain ⟨e, rfl, h1⟩ := qd h
  have bo := s_copyOf_n e S c (by omega) hK hN hc
  have ib := r_iscopy_n e S c (by omega) hK hN.2 hc
  have hd := r_refuse e S 1 (by omega) hK (by decide)
  have hKb : qK (zbump S) := hK
  refine ⟨2, ?_, ?_, by decide⟩
  · simp (config := { maxSteps := 2000000 }) (disch := first | omega | (simp only [K_3 hK, qb_in, qkW, qmW, qnW, true_and, and_true, or_self, true_or, or_true, and_self]; done) | (simp only [K_3 hK, qb_in, qkW, qmW, qnW, true_and, and_true, or_self, true_or, or_true, and_self]; omega)) only [zD_139, b139_0, b139_5, b139_48, b139_53, b139_58, b139_63, b139_64, b139_69, b139_74, b139_79, b139_84, i139, w139_7, qcall_l, qcall_r, qretn_l, qJ_s, qJ_n, qV0, qEx, ↓qif0, ↓zchk_pos, ↓reduceIte, qput, qWW, qmW, qkW, qnW, K_3 hK, bo]
  · simp (config := { maxSteps := 2000000 }) (disch := first | omega | (simp only [K_37 hKb, qb_in, qkW, qmW, qnW, true_and, and_true, or_self, true_or, or_true, and_self]; done) | (simp only [K_37 hKb, qb_in, qkW, qmW, qnW, true_and, and_true, or_self, true_or, or_true, and_self]; omega)) only [zD_287, b287_0, b287_6, b287_9, b287_13, b287_20, b287_23, b287_27, b287_28, b287_31, b287_34, b287_36, b287_41, b287_45, b287_54, b287_59, b287_68, b287_73, b287_78, b287_81, b287_86, b287_87, b287_92, b287_101, b287_106, b287_115, b287_121, qcall_l, qcall_r, qretn_l, qJ_s, qJ_n, qV0, qEx, ↓qif0, ↓zchk_pos, ↓reduceIte, qput, qWW, qmW, qkW, qnW, K_37 hKb, ib, hd, Int.reduceEq]
    rfl
theorem q_giveBack_n (d : Nat) (S : zS) (c x : Int) (h : 4 ≤ d) (hK : qK S) (hN : qNc S) (hc : ¬ (0 ≤ c ∧ c < zm S 37 65)) : qNo qpsE S (zD d 148 [vr 3, vi c, vi x] S) (zD d 303 [vr 37, vi c, vi x]) := by
  obtain ⟨e, rfl, h1⟩ := qd h
  have bo := s_copyOf_n e S c (by omega) hK hN hc
  have ib := r_iscopy_n e S c (by omega) hK hN.2 hc
  have hd := r_refuse e S 1 (by omega) hK (by decide)
  have hKb : qK (zbump S) := hK
  refine ⟨2, ?_, ?_, by decide⟩
  · simp (config := { maxSteps := 2000000 }) (disch := first | omega | (simp only [K_3 hK, qb_in, qkW, qmW, qnW, true_and, and_true, or_self, true_or, or_true, and_self]; done) | (simp only [K_3 hK, qb_in, qkW, qmW, qnW, true_and, and_true, or_self, true_or, or_true, and_self]; omega)) only [zD_148, b148_0, b148_5, b148_11, b148_20, b148_31, b148_39, b148_50, b148_58, b148_68, b148_88, b148_97, b148_102, b148_107, qcall_l, qcall_r, qretn_l, qJ_s, qJ_n, qV0, qEx, ↓qif0, ↓zchk_pos, ↓reduceIte, qput, qWW, qmW, qkW, qnW, K_3 hK, bo]
  · simp (config := { maxSteps := 2000000 }) (disch := first | omega | (simp only [K_37 hKb, qb_in, qkW, qmW, qnW, true_and, and_true, or_self, true_or, or_true, and_self]; done) | (simp only [K_37 hKb, qb_in, qkW, qmW, qnW, true_and, and_true, or_self, true_or, or_true, and_self]; omega)) only [zD_303, b303_0, b303_5, b303_8, b303_13, b303_25, b303_30, b303_33, b303_37, b303_38, b303_44, b303_48, b303_58, b303_62, b303_63, b303_66, b303_69, b303_71, b303_76, b303_92, b303_106, b303_113, b303_122, b303_124, qcall_l, qcall_r, qretn_l, qJ_s, qJ_n, qV0, qEx, ↓qif0, ↓zchk_pos, ↓reduceIte, qput, qWW, qmW, qkW, qnW, K_37 hKb, ib, hd, Int.reduceEq]
    rfl
theorem q_teach_n (d : Nat) (S : zS) (r c x : Int) (h : 4 ≤ d) (hK : qK S) (hN : qNr S) (hc : ¬ (0 ≤ r ∧ r < zm S 37 76)) : qNo qpsF S (zD d 142 [vr 3, vi r, vi c, vi x] S) (zD d 291 [vr 37, vi r, vi c, vi x]) := by
  obtain ⟨e, rfl, h1⟩ := qd h
  have bo := s_readerOf_n e S r (by omega) hK hN hc
  have ib := r_isreader_n e S r (by omega) hK hN.2 hc
  have hd := r_refuse e S 1 (by omega) hK (by decide)
  have hKb : qK (zbump S) := hK
  refine ⟨2, ?_, ?_, by decide⟩
  · simp (config := { maxSteps := 2000000 }) (disch := first | omega | (simp only [K_3 hK, qb_in, qkW, qmW, qnW, true_and, and_true, or_self, true_or, or_true, and_self]; done) | (simp only [K_3 hK, qb_in, qkW, qmW, qnW, true_and, and_true, or_self, true_or, or_true, and_self]; omega)) only [zD_142, b142_0, b142_5, b142_12, b142_18, b142_27, b142_38, b142_51, b142_61, qcall_l, qcall_r, qretn_l, qJ_s, qJ_n, qV0, qEx, ↓qif0, ↓zchk_pos, ↓reduceIte, qput, qWW, qmW, qkW, qnW, K_3 hK, bo]
  · simp (config := { maxSteps := 2000000 }) (disch := first | omega | (simp only [K_37 hKb, qb_in, qkW, qmW, qnW, true_and, and_true, or_self, true_or, or_true, and_self]; done) | (simp only [K_37 hKb, qb_in, qkW, qmW, qnW, true_and, and_true, or_self, true_or, or_true, and_self]; omega)) only [zD_291, b291_0, b291_5, b291_8, b291_13, b291_16, b291_29, b291_32, b291_36, b291_37, b291_45, b291_49, b291_50, b291_53, b291_56, b291_58, b291_70, b291_82, b291_87, qcall_l, qcall_r, qretn_l, qJ_s, qJ_n, qV0, qEx, ↓qif0, ↓zchk_pos, ↓reduceIte, qput, qWW, qmW, qkW, qnW, K_37 hKb, ib, hd, Int.reduceEq]
    rfl
theorem q_unknown_n (d : Nat) (S : zS) (r b : Int) (h : 4 ≤ d) (hK : qK S) (hN : qNr S) (hc : ¬ (0 ≤ r ∧ r < zm S 37 76)) : qNo qpsF S (zD d 143 [vr 3, vi r, vi b] S) (zD d 293 [vr 37, vi r, vi b]) := by
  obtain ⟨e, rfl, h1⟩ := qd h
  have bo := s_readerOf_n e S r (by omega) hK hN hc
  have ib := r_isreader_n e S r (by omega) hK hN.2 hc
  have hd := r_refuse e S 1 (by omega) hK (by decide)
  have hKb : qK (zbump S) := hK
  refine ⟨2, ?_, ?_, by decide⟩
  · simp (config := { maxSteps := 2000000 }) (disch := first | omega | (simp only [K_3 hK, qb_in, qkW, qmW, qnW, true_and, and_true, or_self, true_or, or_true, and_self]; done) | (simp only [K_3 hK, qb_in, qkW, qmW, qnW, true_and, and_true, or_self, true_or, or_true, and_self]; omega)) only [zD_143, b143_0, b143_5, b143_10, b143_13, qcall_l, qcall_r, qretn_l, qJ_s, qJ_n, qV0, qEx, ↓qif0, ↓zchk_pos, ↓reduceIte, qput, qWW, qmW, qkW, qnW, K_3 hK, bo]
  · simp (config := { maxSteps := 2000000 }) (disch := first | omega | (simp only [K_37 hKb, qb_in, qkW, qmW, qnW, true_and, and_true, or_self, true_or, or_true, and_self]; done) | (simp only [K_37 hKb, qb_in, qkW, qmW, qnW, true_and, and_true, or_self, true_or, or_true, and_self]; omega)) only [zD_293, b293_0, b293_6, b293_9, b293_14, b293_17, b293_21, b293_22, b293_25, b293_28, b293_34, b293_37, b293_38, qcall_l, qcall_r, qretn_l, qJ_s, qJ_n, qV0, qEx, ↓qif0, ↓zchk_pos, ↓reduceIte, qput, qWW, qmW, qkW, qnW, K_37 hKb, ib, hd, Int.reduceEq]
    rfl
theorem q_wish_n (d : Nat) (S : zS) (r b : Int) (h : 4 ≤ d) (hK : qK S) (hN : qNr S) (hc : ¬ (0 ≤ r ∧ r < zm S 37 76)) : qNo qpsE S (zD d 144 [vr 3, vi r, vi b] S) (zD d 296 [vr 37, vi r, vi b]) := by
  obtain ⟨e, rfl, h1⟩ := qd h
  have bo := s_readerOf_n e S r (by omega) hK hN hc
  have ib := r_isreader_n e S r (by omega) hK hN.2 hc
  have hd := r_refuse e S 1 (by omega) hK (by decide)
  have hKb : qK (zbump S) := hK
  refine ⟨2, ?_, ?_, by decide⟩
  · simp (config := { maxSteps := 2000000 }) (disch := first | omega | (simp only [K_3 hK, qb_in, qkW, qmW, qnW, true_and, and_true, or_self, true_or, or_true, and_self]; done) | (simp only [K_3 hK, qb_in, qkW, qmW, qnW, true_and, and_true, or_self, true_or, or_true, and_self]; omega)) only [zD_144, b144_0, b144_5, b144_10, b144_13, b144_16, b144_27, b144_36, b144_40, b144_46, b144_49, b144_61, b144_72, b144_81, b144_89, qcall_l, qcall_r, qretn_l, qJ_s, qJ_n, qV0, qEx, ↓qif0, ↓zchk_pos, ↓reduceIte, qput, qWW, qmW, qkW, qnW, K_3 hK, bo]
  · simp (config := { maxSteps := 2000000 }) (disch := first | omega | (simp only [K_37 hKb, qb_in, qkW, qmW, qnW, true_and, and_true, or_self, true_or, or_true, and_self]; done) | (simp only [K_37 hKb, qb_in, qkW, qmW, qnW, true_and, and_true, or_self, true_or, or_true, and_self]; omega)) only [zD_296, b296_0, b296_5, b296_8, b296_13, b296_16, b296_20, b296_21, b296_26, b296_32, b296_35, b296_41, b296_45, b296_51, b296_54, b296_63, b296_67, b296_68, b296_75, b296_79, b296_84, b296_88, b296_89, b296_92, b296_95, b296_97, b296_115, b296_130, b296_142, b296_155, b296_159, b296_160, b296_169, qcall_l, qcall_r, qretn_l, qJ_s, qJ_n, qV0, qEx, ↓qif0, ↓zchk_pos, ↓reduceIte, qput, qWW, qmW, qkW, qnW, K_37 hKb, ib, hd, Int.reduceEq]
    rfl
theorem q_ahead_n (d : Nat) (S : zS) (r b : Int) (h : 4 ≤ d) (hK : qK S) (hN : qNr S) (hc : ¬ (0 ≤ r ∧ r < zm S 37 76)) : qNo qpsF S (zD d 149 [vr 3, vi r, vi b] S) (zD d 304 [vr 37, vi r, vi b]) := by
  obtain ⟨e, rfl, h1⟩ := qd h
  have bo := s_readerOf_n e S r (by omega) hK hN hc
  have ib := r_isreader_n e S r (by omega) hK hN.2 hc
  have hd := r_refuse e S 1 (by omega) hK (by decide)
  have hKb : qK (zbump S) := hK
  refine ⟨2, ?_, ?_, by decide⟩
  · simp (config := { maxSteps := 2000000 }) (disch := first | omega | (simp only [K_3 hK, qb_in, qkW, qmW, qnW, true_and, and_true, or_self, true_or, or_true, and_self]; done) | (simp only [K_3 hK, qb_in, qkW, qmW, qnW, true_and, and_true, or_self, true_or, or_true, and_self]; omega)) only [zD_149, b149_0, b149_5, b149_14, b149_24, b149_32, b149_34, b149_52, b149_66, b149_85, b149_91, b149_97, b149_104, b149_107, b149_113, qcall_l, qcall_r, qretn_l, qJ_s, qJ_n, qV0, qEx, ↓qif0, ↓zchk_pos, ↓reduceIte, qput, qWW, qmW, qkW, qnW, K_3 hK, bo]
  · simp (config := { maxSteps := 2000000 }) (disch := first | omega | (simp only [K_37 hKb, qb_in, qkW, qmW, qnW, true_and, and_true, or_self, true_or, or_true, and_self]; done) | (simp only [K_37 hKb, qb_in, qkW, qmW, qnW, true_and, and_true, or_self, true_or, or_true, and_self]; omega)) only [zD_304, b304_0, b304_6, b304_9, b304_14, b304_17, b304_21, b304_22, b304_25, b304_28, b304_30, b304_36, b304_52, b304_69, b304_79, b304_90, b304_101, b304_107, b304_111, b304_112, b304_121, b304_126, b304_130, b304_132, qcall_l, qcall_r, qretn_l, qJ_s, qJ_n, qV0, qEx, ↓qif0, ↓zchk_pos, ↓reduceIte, qput, qWW, qmW, qkW, qnW, K_37 hKb, ib, hd, Int.reduceEq]
    rfl
theorem q_late_n (d : Nat) (S : zS) (r : Int) (h : 4 ≤ d) (hK : qK S) (hN : qNr S) (hc : ¬ (0 ≤ r ∧ r < zm S 37 76)) : qNo qpsF S (zD d 150 [vr 3, vi r] S) (zD d 305 [vr 37, vi r]) := by
  obtain ⟨e, rfl, h1⟩ := qd h
  have bo := s_readerOf_n e S r (by omega) hK hN hc
  have ib := r_isreader_n e S r (by omega) hK hN.2 hc
  have hd := r_refuse e S 1 (by omega) hK (by decide)
  have hKb : qK (zbump S) := hK
  refine ⟨2, ?_, ?_, by decide⟩
  · simp (config := { maxSteps := 2000000 }) (disch := first | omega | (simp only [K_3 hK, qb_in, qkW, qmW, qnW, true_and, and_true, or_self, true_or, or_true, and_self]; done) | (simp only [K_3 hK, qb_in, qkW, qmW, qnW, true_and, and_true, or_self, true_or, or_true, and_self]; omega)) only [zD_150, b150_0, b150_5, b150_19, b150_32, b150_46, b150_48, b150_54, qcall_l, qcall_r, qretn_l, qJ_s, qJ_n, qV0, qEx, ↓qif0, ↓zchk_pos, ↓reduceIte, qput, qWW, qmW, qkW, qnW, K_3 hK, bo]
  · simp (config := { maxSteps := 2000000 }) (disch := first | omega | (simp only [K_37 hKb, qb_in, qkW, qmW, qnW, true_and, and_true, or_self, true_or, or_true, and_self]; done) | (simp only [K_37 hKb, qb_in, qkW, qmW, qnW, true_and, and_true, or_self, true_or, or_true, and_self]; omega)) only [zD_305, b305_0, b305_6, b305_9, b305_13, b305_14, b305_17, b305_20, b305_22, b305_39, b305_50, b305_55, b305_58, b305_59, b305_67, qcall_l, qcall_r, qretn_l, qJ_s, qJ_n, qV0, qEx, ↓qif0, ↓zchk_pos, ↓reduceIte, qput, qWW, qmW, qkW, qnW, K_37 hKb, ib, hd, Int.reduceEq]
    rfl
theorem q_secret_n (d : Nat) (S : zS) (b t w : Int) (h : 4 ≤ d) (hK : qK S) (hN : qNb S) (hc : ¬ (0 ≤ b ∧ b < zm S 37 16)) : qNo qpsD S (zD d 145 [vr 3, vi b, vi t, vi w] S) (zD d 297 [vr 37, vi b, vi t, vi w]) := by
  obtain ⟨e, rfl, h1⟩ := qd h
  have bo := s_bookOf_n e S b (by omega) hK hN hc
  have ib := r_isbook_n e S b (by omega) hK hN.2 hc
  have hd := r_refuse e S 1 (by omega) hK (by decide)
  have hKb : qK (zbump S) := hK
  have i1 := r_in e t 0 1000 (zbump S) (by omega)
  have i2 := r_in e w 0 63 (zbump S) (by omega)
  refine ⟨2, ?_, ?_, by decide⟩
  · simp (config := { maxSteps := 2000000 }) (disch := first | omega | (simp only [K_3 hK, qb_in, qkW, qmW, qnW, true_and, and_true, or_self, true_or, or_true, and_self]; done) | (simp only [K_3 hK, qb_in, qkW, qmW, qnW, true_and, and_true, or_self, true_or, or_true, and_self]; omega)) only [zD_145, b145_0, b145_5, b145_11, b145_18, b145_22, b145_28, b145_39, b145_60, qcall_l, qcall_r, qretn_l, qJ_s, qJ_n, qV0, qEx, ↓qif0, ↓zchk_pos, ↓reduceIte, qput, qWW, qmW, qkW, qnW, K_3 hK, bo]
  · by_cases c1 : 0 ≤ t ∧ t ≤ 1000
    · rw [qb_p c1] at i1
      by_cases c2 : 0 ≤ w ∧ w ≤ 63
      · rw [qb_p c2] at i2
        simp (config := { maxSteps := 2000000 }) (disch := first | omega | (simp only [K_37 hKb, qb_in, qkW, qmW, qnW, true_and, and_true, or_self, true_or, or_true, and_self]; done) | (simp only [K_37 hKb, qb_in, qkW, qmW, qnW, true_and, and_true, or_self, true_or, or_true, and_self]; omega)) only [zD_297, b297_0, b297_8, b297_11, b297_18, b297_21, b297_25, b297_26, b297_34, b297_37, b297_41, b297_46, b297_50, b297_51, b297_54, b297_57, b297_59, b297_74, qcall_l, qcall_r, qretn_l, qJ_s, qJ_n, qV0, qEx, ↓qif0, ↓zchk_pos, ↓reduceIte, qput, qWW, qmW, qkW, qnW, K_37 hKb, i1, i2, ib, hd, Int.reduceEq]
        rfl
      · rw [qb_n c2] at i2
        simp (config := { maxSteps := 2000000 }) (disch := first | omega | (simp only [K_37 hKb, qb_in, qkW, qmW, qnW, true_and, and_true, or_self, true_or, or_true, and_self]; done) | (simp only [K_37 hKb, qb_in, qkW, qmW, qnW, true_and, and_true, or_self, true_or, or_true, and_self]; omega)) only [zD_297, b297_0, b297_8, b297_11, b297_18, b297_21, b297_25, b297_26, b297_34, b297_37, b297_41, b297_46, b297_50, b297_51, b297_54, b297_57, b297_59, b297_74, qcall_l, qcall_r, qretn_l, qJ_s, qJ_n, qV0, qEx, ↓qif0, ↓zchk_pos, ↓reduceIte, qput, qWW, qmW, qkW, qnW, K_37 hKb, i1, i2, ib, hd, Int.reduceEq]
        rfl
    · rw [qb_n c1] at i1
      simp (config := { maxSteps := 2000000 }) (disch := first | omega | (simp only [K_37 hKb, qb_in, qkW, qmW, qnW, true_and, and_true, or_self, true_or, or_true, and_self]; done) | (simp only [K_37 hKb, qb_in, qkW, qmW, qnW, true_and, and_true, or_self, true_or, or_true, and_self]; omega)) only [zD_297, b297_0, b297_8, b297_11, b297_18, b297_21, b297_25, b297_26, b297_34, b297_37, b297_41, b297_46, b297_50, b297_51, b297_54, b297_57, b297_59, b297_74, qcall_l, qcall_r, qretn_l, qJ_s, qJ_n, qV0, qEx, ↓qif0, ↓zchk_pos, ↓reduceIte, qput, qWW, qmW, qkW, qnW, K_37 hKb, i1, ib, hd, Int.reduceEq]
      rfl
theorem r_isEmbosser (d : Nat) (S : zS) (c : Int) (h : 2 ≤ d) : zD d 274 [vi c] S = some (.inl (some (vi (qb (0 ≤ c ∧ c ≤ 2)))), S) := by
  obtain ⟨e, rfl, h1⟩ := qd h
  have q := r_in e c 0 2 S h1
  simp (config := { maxSteps := 2000000 }) (disch := first | omega | (simp only [qb_in, qkW, qmW, qnW, true_and, and_true, or_self, true_or, or_true, and_self]; done) | (simp only [qb_in, qkW, qmW, qnW, true_and, and_true, or_self, true_or, or_true, and_self]; omega)) only [zD_274, b274_0, b274_6, qcall_l, qcall_r, qretn_l, qJ_s, qJ_n, qV0, qEx, ↓qif0, ↓zchk_pos, ↓reduceIte, qput, qWW, qmW, qkW, qnW, q, qb_in]
theorem q_emboss_n (d : Nat) (S : zS) (c b : Int) (h : 4 ≤ d) (hK : qK S) (hN : qNb S) (hc : ¬ (0 ≤ c ∧ c < 3) ∨ ¬ (0 ≤ b ∧ b < zm S 37 16)) : qNo qpsE S (zD d 137 [vr 3, vi c, vi b] S) (zD d 276 [vr 37, vi c, vi b]) := by
  obtain ⟨e, rfl, h1⟩ := qd h
  have ie := r_isEmbosser e (zbump S) c (by omega)
  have hd := r_refuse e S 1 (by omega) hK (by decide)
  have hKb : qK (zbump S) := hK
  by_cases c1 : 0 ≤ c ∧ c < 3
  · have hc := hc.resolve_left fun z => z c1
    have bo := s_bookOf_n e S b (by omega) hK hN hc
    have ib := r_isbook_n e S b (by omega) hK hN.2 hc
    rw [qb_p (show 0 ≤ c ∧ c ≤ 2 by omega)] at ie
    refine ⟨2, ?_, ?_, by decide⟩
    · simp (config := { maxSteps := 2000000 }) (disch := first | omega | (simp only [K_3 hK, qb_in, qkW, qmW, qnW, true_and, and_true, or_self, true_or, or_true, and_self]; done) | (simp only [K_3 hK, qb_in, qkW, qmW, qnW, true_and, and_true, or_self, true_or, or_true, and_self]; omega)) only [zD_137, b137_0, b137_4, b137_9, b137_20, b137_25, b137_33, b137_42, b137_53, b137_62, b137_75, b137_93, b137_110, qcall_l, qcall_r, qretn_l, qJ_s, qJ_n, qV0, qEx, ↓qif0, ↓zchk_pos, ↓reduceIte, qput, qWW, qmW, qkW, qnW, K_3 hK, if_neg (show ¬ c < 0 by omega), if_pos c1.2, bo]
    · simp (config := { maxSteps := 2000000 }) (disch := first | omega | (simp only [K_37 hKb, qb_in, qkW, qmW, qnW, true_and, and_true, or_self, true_or, or_true, and_self]; done) | (simp only [K_37 hKb, qb_in, qkW, qmW, qnW, true_and, and_true, or_self, true_or, or_true, and_self]; omega)) only [zD_276, b276_0, b276_4, b276_7, b276_12, b276_15, b276_19, b276_20, b276_26, b276_30, b276_39, b276_48, b276_52, b276_53, b276_56, b276_59, b276_61, b276_79, b276_91, b276_98, b276_114, b276_121, b276_126, b276_128, b276_146, b276_160, b276_176, b276_187, b276_205, b276_212, b276_228, b276_237, b276_239, b276_257, qcall_l, qcall_r, qretn_l, qJ_s, qJ_n, qV0, qEx, ↓qif0, ↓zchk_pos, ↓reduceIte, qput, qWW, qmW, qkW, qnW, K_37 hKb, ie, ib, hd, Int.reduceEq]
      rfl
  · rw [qb_n (show ¬ (0 ≤ c ∧ c ≤ 2) by omega)] at ie
    refine ⟨2, ?_, ?_, by decide⟩
    · by_cases c2 : c < 0
      · simp (config := { maxSteps := 2000000 }) (disch := first | omega | (simp only [qb_in, qkW, qmW, qnW, true_and, and_true, or_self, true_or, or_true, and_self]; done) | (simp only [qb_in, qkW, qmW, qnW, true_and, and_true, or_self, true_or, or_true, and_self]; omega)) only [zD_137, b137_0, b137_4, b137_9, b137_20, b137_25, b137_33, b137_42, b137_53, b137_62, b137_75, b137_93, b137_110, qcall_l, qcall_r, qretn_l, qJ_s, qJ_n, qV0, qEx, ↓qif0, ↓zchk_pos, ↓reduceIte, qput, qWW, qmW, qkW, qnW, if_pos c2]
      · simp (config := { maxSteps := 2000000 }) (disch := first | omega | (simp only [qb_in, qkW, qmW, qnW, true_and, and_true, or_self, true_or, or_true, and_self]; done) | (simp only [qb_in, qkW, qmW, qnW, true_and, and_true, or_self, true_or, or_true, and_self]; omega)) only [zD_137, b137_0, b137_4, b137_9, b137_20, b137_25, b137_33, b137_42, b137_53, b137_62, b137_75, b137_93, b137_110, qcall_l, qcall_r, qretn_l, qJ_s, qJ_n, qV0, qEx, ↓qif0, ↓zchk_pos, ↓reduceIte, qput, qWW, qmW, qkW, qnW, if_neg c2, if_neg (show ¬ c < 3 by omega)]
    · simp (config := { maxSteps := 2000000 }) (disch := first | omega | (simp only [K_37 hKb, qb_in, qkW, qmW, qnW, true_and, and_true, or_self, true_or, or_true, and_self]; done) | (simp only [K_37 hKb, qb_in, qkW, qmW, qnW, true_and, and_true, or_self, true_or, or_true, and_self]; omega)) only [zD_276, b276_0, b276_4, b276_7, b276_12, b276_15, b276_19, b276_20, b276_26, b276_30, b276_39, b276_48, b276_52, b276_53, b276_56, b276_59, b276_61, b276_79, b276_91, b276_98, b276_114, b276_121, b276_126, b276_128, b276_146, b276_160, b276_176, b276_187, b276_205, b276_212, b276_228, b276_237, b276_239, b276_257, qcall_l, qcall_r, qretn_l, qJ_s, qJ_n, qV0, qEx, ↓qif0, ↓zchk_pos, ↓reduceIte, qput, qWW, qmW, qkW, qnW, K_37 hKb, ie, hd, Int.reduceEq]
      rfl
theorem q_add_n (d : Nat) (S : zS) (b : Int) (h : 8 ≤ d) (hK : qK S) (hP : qP (zm S)) (hT : qRT S) (hN : qNb S) (hc : ¬ (0 ≤ b ∧ b < zm S 37 16)) : qNo qps3 S (zD d 132 [vr 3, vi b] S) (zD d 255 [vr 37, vi b]) := by
  obtain ⟨e, rfl, h1⟩ := qd h
  have bo := s_bookOf_n e S b (by omega) hK hN hc
  have ib := r_isbook_n e S b (by omega) hK hN.2 hc
  have hd := r_refuse e S 1 (by omega) hK (by decide)
  have hKb : qK (zbump S) := hK
  have hPb : qP (zm (zbump S)) := hP
  have hTb : qRT (zbump S) := hT
  have wt := r_wordsOfTape e (zbump S) (by omega) hKb hPb hTb
  refine ⟨2, ?_, ?_, by decide⟩
  · simp (config := { maxSteps := 2000000 }) (disch := first | omega | (simp only [K_3 hK, qb_in, qkW, qmW, qnW, true_and, and_true, or_self, true_or, or_true, and_self]; done) | (simp only [K_3 hK, qb_in, qkW, qmW, qnW, true_and, and_true, or_self, true_or, or_true, and_self]; omega)) only [zD_132, b132_0, b132_5, b132_13, b132_17, b132_28, b132_39, b132_45, b132_52, b132_63, b132_70, b132_87, b132_94, b132_110, b132_124, b132_129, b132_141, b132_154, b132_156, b132_167, qcall_l, qcall_r, qretn_l, qJ_s, qJ_n, qV0, qEx, ↓qif0, ↓zchk_pos, ↓reduceIte, qput, qWW, qmW, qkW, qnW, K_3 hK, bo]
  · simp (config := { maxSteps := 2000000 }) (disch := first | omega | (simp only [K_37 hKb, qb_in, qkW, qmW, qnW, true_and, and_true, or_self, true_or, or_true, and_self]; done) | (simp only [K_37 hKb, qb_in, qkW, qmW, qnW, true_and, and_true, or_self, true_or, or_true, and_self]; omega)) only [zD_255, b255_0, b255_4, b255_10, b255_16, b255_20, b255_24, b255_28, b255_41, b255_46, b255_49, b255_53, b255_54, b255_57, b255_60, b255_62, b255_77, b255_83, b255_98, b255_116, b255_135, b255_153, b255_174, b255_192, b255_200, b255_213, b255_216, b255_221, b255_225, b255_231, b255_236, b255_240, b255_241, b255_255, qcall_l, qcall_r, qretn_l, qJ_s, qJ_n, qV0, qEx, ↓qif0, ↓zchk_pos, ↓reduceIte, qput, qWW, qmW, qkW, qnW, K_37 hKb, wt, ib, hd, Int.reduceEq]
    rfl
theorem q_book_n (d : Nat) (S : zS) (c g w t b : Int) (h : 4 ≤ d) (hK : qK S) (hC : qRC S) (hc : ¬ (0 ≤ c ∧ c < zm S 37 4)) : qNo qps3 S (zD d 131 [vr 3, vi c, vi g, vi w, vi t, vi b] S) (zD d 253 [vr 37, vi c, vi g, vi w, vi t, vi b]) := by
  obtain ⟨e, rfl, h1⟩ := qd h
  have co := s_codeOf_n e S c (by omega) hK hC hc
  have hKb : qK (zbump S) := hK
  have ic := r_isCode' e (zbump S) c (by omega) hKb hC.2.1
  rw [qb_n (show ¬ (0 ≤ c ∧ c ≤ zm (zbump S) 37 4 - 1) by show ¬ (0 ≤ c ∧ c ≤ zm S 37 4 - 1); omega)] at ic
  have hd := r_refuse e S 1 (by omega) hK (by decide)
  have i1 := r_isGrade e (zbump S) g (by omega)
  have i2 := r_in e w 18 40 (zbump S) (by omega)
  have i3 := r_in e t 3 25 (zbump S) (by omega)
  refine ⟨2, ?_, ?_, by decide⟩
  · simp (config := { maxSteps := 2000000 }) (disch := first | omega | (simp only [K_3 hK, qb_in, qkW, qmW, qnW, true_and, and_true, or_self, true_or, or_true, and_self]; done) | (simp only [K_3 hK, qb_in, qkW, qmW, qnW, true_and, and_true, or_self, true_or, or_true, and_self]; omega)) only [zD_131, b131_0, b131_5, b131_11, b131_17, b131_23, b131_29, b131_36, b131_47, b131_55, b131_66, b131_83, b131_90, b131_106, qcall_l, qcall_r, qretn_l, qJ_s, qJ_n, qV0, qEx, ↓qif0, ↓zchk_pos, ↓reduceIte, qput, qWW, qmW, qkW, qnW, K_3 hK, co]
  · by_cases c1 : 0 ≤ g ∧ g ≤ 3
    · rw [qb_p c1] at i1
      by_cases c2 : 18 ≤ w ∧ w ≤ 40
      · rw [qb_p c2] at i2
        by_cases c3 : 3 ≤ t ∧ t ≤ 25
        · rw [qb_p c3] at i3
          simp (config := { maxSteps := 2000000 }) (disch := first | omega | (simp only [K_37 hKb, qb_in, qkW, qmW, qnW, true_and, and_true, or_self, true_or, or_true, and_self]; done) | (simp only [K_37 hKb, qb_in, qkW, qmW, qnW, true_and, and_true, or_self, true_or, or_true, and_self]; omega)) only [zD_253, b253_0, b253_4, b253_7, b253_15, b253_18, b253_26, b253_29, b253_33, b253_34, b253_42, b253_45, b253_49, b253_54, b253_58, b253_66, b253_70, b253_71, b253_74, b253_77, b253_79, b253_97, b253_113, b253_131, b253_147, qcall_l, qcall_r, qretn_l, qJ_s, qJ_n, qV0, qEx, ↓qif0, ↓zchk_pos, ↓reduceIte, qput, qWW, qmW, qkW, qnW, K_37 hKb, i1, i2, i3, ic, hd, Int.reduceEq]
          rfl
        · rw [qb_n c3] at i3
          simp (config := { maxSteps := 2000000 }) (disch := first | omega | (simp only [K_37 hKb, qb_in, qkW, qmW, qnW, true_and, and_true, or_self, true_or, or_true, and_self]; done) | (simp only [K_37 hKb, qb_in, qkW, qmW, qnW, true_and, and_true, or_self, true_or, or_true, and_self]; omega)) only [zD_253, b253_0, b253_4, b253_7, b253_15, b253_18, b253_26, b253_29, b253_33, b253_34, b253_42, b253_45, b253_49, b253_54, b253_58, b253_66, b253_70, b253_71, b253_74, b253_77, b253_79, b253_97, b253_113, b253_131, b253_147, qcall_l, qcall_r, qretn_l, qJ_s, qJ_n, qV0, qEx, ↓qif0, ↓zchk_pos, ↓reduceIte, qput, qWW, qmW, qkW, qnW, K_37 hKb, i1, i2, i3, ic, hd, Int.reduceEq]
          rfl
      · rw [qb_n c2] at i2
        simp (config := { maxSteps := 2000000 }) (disch := first | omega | (simp only [K_37 hKb, qb_in, qkW, qmW, qnW, true_and, and_true, or_self, true_or, or_true, and_self]; done) | (simp only [K_37 hKb, qb_in, qkW, qmW, qnW, true_and, and_true, or_self, true_or, or_true, and_self]; omega)) only [zD_253, b253_0, b253_4, b253_7, b253_15, b253_18, b253_26, b253_29, b253_33, b253_34, b253_42, b253_45, b253_49, b253_54, b253_58, b253_66, b253_70, b253_71, b253_74, b253_77, b253_79, b253_97, b253_113, b253_131, b253_147, qcall_l, qcall_r, qretn_l, qJ_s, qJ_n, qV0, qEx, ↓qif0, ↓zchk_pos, ↓reduceIte, qput, qWW, qmW, qkW, qnW, K_37 hKb, i1, i2, ic, hd, Int.reduceEq]
        rfl
    · rw [qb_n c1] at i1
      simp (config := { maxSteps := 2000000 }) (disch := first | omega | (simp only [K_37 hKb, qb_in, qkW, qmW, qnW, true_and, and_true, or_self, true_or, or_true, and_self]; done) | (simp only [K_37 hKb, qb_in, qkW, qmW, qnW, true_and, and_true, or_self, true_or, or_true, and_self]; omega)) only [zD_253, b253_0, b253_4, b253_7, b253_15, b253_18, b253_26, b253_29, b253_33, b253_34, b253_42, b253_45, b253_49, b253_54, b253_58, b253_66, b253_70, b253_71, b253_74, b253_77, b253_79, b253_97, b253_113, b253_131, b253_147, qcall_l, qcall_r, qretn_l, qJ_s, qJ_n, qV0, qEx, ↓qif0, ↓zchk_pos, ↓reduceIte, qput, qWW, qmW, qkW, qnW, K_37 hKb, i1, ic, hd, Int.reduceEq]
      rfl
