/-! Characters, cells: the small methods without memory. -/
theorem r_in (d : Nat) (v l u : Int) (S : zS) (h : 1 ≤ d) : zD d 183 [vi v, vi l, vi u] S = some (.inl (some (vi (qb (l ≤ v ∧ v ≤ u)))), S) := by
  obtain ⟨e, rfl, -⟩ := qd h
  simp (config := { maxSteps := 2000000 }) (disch := first | omega | (simp only [qb_in, qkW, qmW, qnW, true_and, and_true, or_self, true_or, or_true, and_self]; done) | (simp only [qb_in, qkW, qmW, qnW, true_and, and_true, or_self, true_or, or_true, and_self]; omega)) only [zD_183, b183_0, b183_5, b183_10, b183_14, b183_15, qcall_l, qcall_r, qretn_l, qJ_s, qJ_n, qV0, qEx, ↓qif0, ↓zchk_pos, ↓reduceIte, qput, qWW, qmW, qkW, qnW]
  unfold qb
  repeat' split
  all_goals first | rfl | (exfalso; omega)
abbrev qsm (c : Int) : Prop := 97 ≤ c ∧ c ≤ 122
abbrev qbg (c : Int) : Prop := 65 ≤ c ∧ c ≤ 90
abbrev qdg (c : Int) : Prop := 48 ≤ c ∧ c ≤ 57
abbrev qmk (c : Int) : Prop := c = 44 ∨ c = 46 ∨ c = 59 ∨ c = 63
abbrev qpt (c : Int) : Prop := c = 32 ∨ c = 47 ∨ c = 124
abbrev qst (c : Int) : Prop := qsm c ∨ qbg c ∨ qdg c ∨ qmk c ∨ qpt c ∨ c = 42 ∨ c = 43 ∨ c = 45 ∨ c = 94 ∨ c = 40 ∨ c = 41
theorem r_isSmall (d : Nat) (c : Int) (S : zS) (h : 2 ≤ d) : zD d 184 [vi c] S = some (.inl (some (vi (qb (qsm c)))), S) := by
  obtain ⟨e, rfl, h1⟩ := qd h
  simp (config := { maxSteps := 2000000 }) (disch := first | omega | (simp only [qb_in, qkW, qmW, qnW, true_and, and_true, or_self, true_or, or_true, and_self]; done) | (simp only [qb_in, qkW, qmW, qnW, true_and, and_true, or_self, true_or, or_true, and_self]; omega)) only [zD_184, b184_0, b184_8, qcall_l, qcall_r, qretn_l, qJ_s, qJ_n, qV0, qEx, ↓qif0, ↓zchk_pos, ↓reduceIte, qput, qWW, qmW, qkW, qnW, r_in]
theorem r_isBig (d : Nat) (c : Int) (S : zS) (h : 2 ≤ d) : zD d 185 [vi c] S = some (.inl (some (vi (qb (qbg c)))), S) := by
  obtain ⟨e, rfl, h1⟩ := qd h
  simp (config := { maxSteps := 2000000 }) (disch := first | omega | (simp only [qb_in, qkW, qmW, qnW, true_and, and_true, or_self, true_or, or_true, and_self]; done) | (simp only [qb_in, qkW, qmW, qnW, true_and, and_true, or_self, true_or, or_true, and_self]; omega)) only [zD_185, b185_0, b185_8, qcall_l, qcall_r, qretn_l, qJ_s, qJ_n, qV0, qEx, ↓qif0, ↓zchk_pos, ↓reduceIte, qput, qWW, qmW, qkW, qnW, r_in]
theorem r_isDigit (d : Nat) (c : Int) (S : zS) (h : 2 ≤ d) : zD d 186 [vi c] S = some (.inl (some (vi (qb (qdg c)))), S) := by
  obtain ⟨e, rfl, h1⟩ := qd h
  simp (config := { maxSteps := 2000000 }) (disch := first | omega | (simp only [qb_in, qkW, qmW, qnW, true_and, and_true, or_self, true_or, or_true, and_self]; done) | (simp only [qb_in, qkW, qmW, qnW, true_and, and_true, or_self, true_or, or_true, and_self]; omega)) only [zD_186, b186_0, b186_8, qcall_l, qcall_r, qretn_l, qJ_s, qJ_n, qV0, qEx, ↓qif0, ↓zchk_pos, ↓reduceIte, qput, qWW, qmW, qkW, qnW, r_in]
theorem r_isAnyMark (d : Nat) (c : Int) (S : zS) (h : 1 ≤ d) : zD d 187 [vi c] S = some (.inl (some (vi (qb (qmk c)))), S) := by
  obtain ⟨e, rfl, -⟩ := qd h
  simp (config := { maxSteps := 2000000 }) (disch := first | omega | (simp only [qb_in, qkW, qmW, qnW, true_and, and_true, or_self, true_or, or_true, and_self]; done) | (simp only [qb_in, qkW, qmW, qnW, true_and, and_true, or_self, true_or, or_true, and_self]; omega)) only [zD_187, b187_0, b187_6, b187_12, b187_18, b187_24, b187_28, b187_29, qcall_l, qcall_r, qretn_l, qJ_s, qJ_n, qV0, qEx, ↓qif0, ↓zchk_pos, ↓reduceIte, qput, qWW, qmW, qkW, qnW]
  unfold qb
  repeat' split
  all_goals first | rfl | (exfalso; omega)
theorem r_isPart (d : Nat) (c : Int) (S : zS) (h : 1 ≤ d) : zD d 188 [vi c] S = some (.inl (some (vi (qb (qpt c)))), S) := by
  obtain ⟨e, rfl, -⟩ := qd h
  simp (config := { maxSteps := 2000000 }) (disch := first | omega | (simp only [qb_in, qkW, qmW, qnW, true_and, and_true, or_self, true_or, or_true, and_self]; done) | (simp only [qb_in, qkW, qmW, qnW, true_and, and_true, or_self, true_or, or_true, and_self]; omega)) only [zD_188, b188_0, b188_6, b188_12, b188_18, b188_22, b188_23, qcall_l, qcall_r, qretn_l, qJ_s, qJ_n, qV0, qEx, ↓qif0, ↓zchk_pos, ↓reduceIte, qput, qWW, qmW, qkW, qnW]
  unfold qb
  repeat' split
  all_goals first | rfl | (exfalso; omega)
theorem r_canStand (d : Nat) (c : Int) (S : zS) (h : 2 ≤ d) (hc : 0 ≤ c ∧ c < 65536) : zD d 189 [vi c] S = some (.inl (some (vi (qb (qst c)))), S) := by
  obtain ⟨e, rfl, h1⟩ := qd h
  have hm : c % 65536 = c := by omega
  simp (config := { maxSteps := 2000000 }) (disch := first | omega | (simp only [qb_in, qkW, qmW, qnW, true_and, and_true, or_self, true_or, or_true, and_self]; done) | (simp only [qb_in, qkW, qmW, qnW, true_and, and_true, or_self, true_or, or_true, and_self]; omega)) only [zD_189, b189_0, b189_8, b189_11, b189_19, b189_22, b189_30, b189_33, b189_38, b189_41, b189_46, b189_49, b189_55, b189_61, b189_67, b189_73, b189_79, b189_85, b189_89, b189_90, qcall_l, qcall_r, qretn_l, qJ_s, qJ_n, qV0, qEx, ↓qif0, ↓zchk_pos, ↓reduceIte, qput, qWW, qmW, qkW, qnW, r_in, r_isAnyMark, r_isPart, hm]
  unfold qb
  repeat' split
  all_goals first | rfl | (exfalso; omega)
theorem s_isSmallLetter (d : Nat) (c : Int) (S : zS) (h : 1 ≤ d) : zD d 89 [vi c] S = some (.inl (some (vi (qb (qsm c)))), S) := by
  obtain ⟨e, rfl, -⟩ := qd h
  simp (config := { maxSteps := 2000000 }) (disch := first | omega | (simp only [qb_in, qkW, qmW, qnW, true_and, and_true, or_self, true_or, or_true, and_self]; done) | (simp only [qb_in, qkW, qmW, qnW, true_and, and_true, or_self, true_or, or_true, and_self]; omega)) only [zD_89, b89_0, b89_6, b89_12, b89_16, b89_17, qcall_l, qcall_r, qretn_l, qJ_s, qJ_n, qV0, qEx, ↓qif0, ↓zchk_pos, ↓reduceIte, qput, qWW, qmW, qkW, qnW]
  unfold qb
  repeat' split
  all_goals first | rfl | (exfalso; omega)
theorem s_isDigit (d : Nat) (c : Int) (S : zS) (h : 1 ≤ d) : zD d 90 [vi c] S = some (.inl (some (vi (qb (qdg c)))), S) := by
  obtain ⟨e, rfl, -⟩ := qd h
  simp (config := { maxSteps := 2000000 }) (disch := first | omega | (simp only [qb_in, qkW, qmW, qnW, true_and, and_true, or_self, true_or, or_true, and_self]; done) | (simp only [qb_in, qkW, qmW, qnW, true_and, and_true, or_self, true_or, or_true, and_self]; omega)) only [zD_90, b90_0, b90_6, b90_12, b90_16, b90_17, qcall_l, qcall_r, qretn_l, qJ_s, qJ_n, qV0, qEx, ↓qif0, ↓zchk_pos, ↓reduceIte, qput, qWW, qmW, qkW, qnW]
  unfold qb
  repeat' split
  all_goals first | rfl | (exfalso; omega)
def qmc (c : Int) : Int := if c = 44 then 2 else if c = 59 then 6 else if c = 63 then 38 else if c = 46 then 50 else 0
theorem s_cellOfMark (d : Nat) (c : Int) (S : zS) (h : 1 ≤ d) : zD d 92 [vi c] S = some (.inl (some (vi (qmc c))), S) := by
  obtain ⟨e, rfl, -⟩ := qd h
  simp (config := { maxSteps := 2000000 }) (disch := first | omega | (simp only [qb_in, qkW, qmW, qnW, true_and, and_true, or_self, true_or, or_true, and_self]; done) | (simp only [qb_in, qkW, qmW, qnW, true_and, and_true, or_self, true_or, or_true, and_self]; omega)) only [zD_92, b92_0, b92_6, b92_10, b92_16, b92_21, b92_27, b92_32, b92_38, b92_43, b92_44, qcall_l, qcall_r, qretn_l, qJ_s, qJ_n, qV0, qEx, ↓qif0, ↓zchk_pos, ↓reduceIte, qput, qWW, qmW, qkW, qnW]
  unfold qmc
  repeat' split
  all_goals first | rfl | (exfalso; omega)
theorem r_cellOfMark (d : Nat) (c : Int) (S : zS) (h : 1 ≤ d) (hc : qmk c) : zD d 193 [vi c] S = some (.inl (some (vi (qmc c))), S) := by
  obtain ⟨e, rfl, -⟩ := qd h
  simp (config := { maxSteps := 2000000 }) (disch := first | omega | (simp only [qb_in, qkW, qmW, qnW, true_and, and_true, or_self, true_or, or_true, and_self]; done) | (simp only [qb_in, qkW, qmW, qnW, true_and, and_true, or_self, true_or, or_true, and_self]; omega)) only [zD_193, b193_0, b193_6, b193_10, b193_16, b193_21, b193_27, b193_32, b193_34, qcall_l, qcall_r, qretn_l, qJ_s, qJ_n, qV0, qEx, ↓qif0, ↓zchk_pos, ↓reduceIte, qput, qWW, qmW, qkW, qnW]
  unfold qmc
  repeat' split
  all_goals first | rfl | (exfalso; omega)
def qkd (c : Int) : Int := if qsm c then 2 else if qbg c then 3 else if qdg c then 4 else if qpt c then 6 else if c = 42 then 1 else if qmk c then 5 else 0
theorem qmc_0 (c : Int) : (qmc c = 0) = ¬qmk c := by
  unfold qmc
  apply propext
  repeat' split
  all_goals omega
theorem s_kindOf (d : Nat) (c : Int) (S : zS) (h : 2 ≤ d) : zD d 91 [vi c] S = some (.inl (some (vi (qkd c))), S) := by
  obtain ⟨e, rfl, h1⟩ := qd h
  simp (config := { maxSteps := 2000000 }) (disch := first | omega | (simp only [qb_in, qkW, qmW, qnW, true_and, and_true, or_self, true_or, or_true, and_self]; done) | (simp only [qb_in, qkW, qmW, qnW, true_and, and_true, or_self, true_or, or_true, and_self]; omega)) only [zD_91, b91_0, b91_4, b91_7, b91_9, b91_15, b91_21, b91_23, b91_27, b91_30, b91_32, b91_38, b91_44, b91_50, b91_53, b91_59, b91_63, b91_67, b91_70, b91_74, b91_75, qcall_l, qcall_r, qretn_l, qJ_s, qJ_n, qV0, qEx, ↓qif0, ↓zchk_pos, ↓reduceIte, qput, qWW, qmW, qkW, qnW, s_isSmallLetter, s_isDigit, s_cellOfMark, qmc_0, qite_nn]
  unfold qkd
  repeat' split
  all_goals first | rfl | (exfalso; omega)
theorem s_isAllowed (d : Nat) (c : Int) (S : zS) (h : 3 ≤ d) : zD d 88 [vi c] S = some (.inl (some (vi (qb (qst c)))), S) := by
  obtain ⟨e, rfl, h1⟩ := qd h
  simp (config := { maxSteps := 2000000 }) (disch := first | omega | (simp only [qb_in, qkW, qmW, qnW, true_and, and_true, or_self, true_or, or_true, and_self]; done) | (simp only [qb_in, qkW, qmW, qnW, true_and, and_true, or_self, true_or, or_true, and_self]; omega)) only [zD_88, b88_0, b88_4, b88_7, b88_13, b88_19, b88_25, b88_31, b88_37, b88_41, b88_42, qcall_l, qcall_r, qretn_l, qJ_s, qJ_n, qV0, qEx, ↓qif0, ↓zchk_pos, ↓reduceIte, qput, qWW, qmW, qkW, qnW, s_kindOf]
  unfold qb qkd
  repeat' split
  all_goals first | rfl | (exfalso; omega)
