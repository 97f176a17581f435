/-! The class reads its cells back. -/
theorem s_signOf (d : Nat) (S : zS) (c : Int) (h : 1 ≤ d) : zD d 57 [vi c] S = some (.inl (some (vi (if c = 22 then 43 else if c = 36 then 45 else if c = 20 then 46 else if c = 12 then 47 else if c = 34 then 94 else 32))), S) := by
  obtain ⟨e, rfl, -⟩ := qd h
  by_cases h1 : c = 22
  · rw [if_pos h1, h1]
    simp (config := { maxSteps := 2000000 }) (disch := first | omega | (simp only [qb_in, qkW, qmW, qnW, true_and, and_true, or_self, true_or, or_true, and_self]; done) | (simp only [qb_in, qkW, qmW, qnW, true_and, and_true, or_self, true_or, or_true, and_self]; omega)) only [zD_57, b57_0, b57_52, b57_55, b57_58, b57_61, b57_64, b57_67, i57, w57_1, qcall_l, qcall_r, qretn_l, qJ_s, qJ_n, qV0, qEx, ↓qif0, ↓zchk_pos, ↓reduceIte, qput, qWW, qmW, qkW, qnW, Int.reduceEq, Int.reduceLE, Int.reduceLT, true_and, and_self]
  · by_cases h2 : c = 36
    · rw [if_neg h1, if_pos h2, h2]
      simp (config := { maxSteps := 2000000 }) (disch := first | omega | (simp only [qb_in, qkW, qmW, qnW, true_and, and_true, or_self, true_or, or_true, and_self]; done) | (simp only [qb_in, qkW, qmW, qnW, true_and, and_true, or_self, true_or, or_true, and_self]; omega)) only [zD_57, b57_0, b57_52, b57_55, b57_58, b57_61, b57_64, b57_67, i57, w57_1, qcall_l, qcall_r, qretn_l, qJ_s, qJ_n, qV0, qEx, ↓qif0, ↓zchk_pos, ↓reduceIte, qput, qWW, qmW, qkW, qnW, Int.reduceEq, Int.reduceLE, Int.reduceLT, true_and, and_self]
    · by_cases h3 : c = 20
      · rw [if_neg h1, if_neg h2, if_pos h3, h3]
        simp (config := { maxSteps := 2000000 }) (disch := first | omega | (simp only [qb_in, qkW, qmW, qnW, true_and, and_true, or_self, true_or, or_true, and_self]; done) | (simp only [qb_in, qkW, qmW, qnW, true_and, and_true, or_self, true_or, or_true, and_self]; omega)) only [zD_57, b57_0, b57_52, b57_55, b57_58, b57_61, b57_64, b57_67, i57, w57_1, qcall_l, qcall_r, qretn_l, qJ_s, qJ_n, qV0, qEx, ↓qif0, ↓zchk_pos, ↓reduceIte, qput, qWW, qmW, qkW, qnW, Int.reduceEq, Int.reduceLE, Int.reduceLT, true_and, and_self]
      · by_cases h4 : c = 12
        · rw [if_neg h1, if_neg h2, if_neg h3, if_pos h4, h4]
          simp (config := { maxSteps := 2000000 }) (disch := first | omega | (simp only [qb_in, qkW, qmW, qnW, true_and, and_true, or_self, true_or, or_true, and_self]; done) | (simp only [qb_in, qkW, qmW, qnW, true_and, and_true, or_self, true_or, or_true, and_self]; omega)) only [zD_57, b57_0, b57_52, b57_55, b57_58, b57_61, b57_64, b57_67, i57, w57_1, qcall_l, qcall_r, qretn_l, qJ_s, qJ_n, qV0, qEx, ↓qif0, ↓zchk_pos, ↓reduceIte, qput, qWW, qmW, qkW, qnW, Int.reduceEq, Int.reduceLE, Int.reduceLT, true_and, and_self]
        · by_cases h5 : c = 34
          · rw [if_neg h1, if_neg h2, if_neg h3, if_neg h4, if_pos h5, h5]
            simp (config := { maxSteps := 2000000 }) (disch := first | omega | (simp only [qb_in, qkW, qmW, qnW, true_and, and_true, or_self, true_or, or_true, and_self]; done) | (simp only [qb_in, qkW, qmW, qnW, true_and, and_true, or_self, true_or, or_true, and_self]; omega)) only [zD_57, b57_0, b57_52, b57_55, b57_58, b57_61, b57_64, b57_67, i57, w57_1, qcall_l, qcall_r, qretn_l, qJ_s, qJ_n, qV0, qEx, ↓qif0, ↓zchk_pos, ↓reduceIte, qput, qWW, qmW, qkW, qnW, Int.reduceEq, Int.reduceLE, Int.reduceLT, true_and, and_self]
          · rw [if_neg h1, if_neg h2, if_neg h3, if_neg h4, if_neg h5]
            simp (config := { maxSteps := 2000000 }) (disch := first | omega | (simp only [qb_in, qkW, qmW, qnW, true_and, and_true, or_self, true_or, or_true, and_self]; done) | (simp only [qb_in, qkW, qmW, qnW, true_and, and_true, or_self, true_or, or_true, and_self]; omega)) only [zD_57, b57_0, b57_52, b57_55, b57_58, b57_61, b57_64, b57_67, i57, w57_1, qcall_l, qcall_r, qretn_l, qJ_s, qJ_n, qV0, qEx, ↓qif0, ↓zchk_pos, ↓reduceIte, qput, qWW, qmW, qkW, qnW, if_neg h1, if_neg h2, if_neg h3, if_neg h4, if_neg h5, Int.reduceEq, Int.reduceLE, Int.reduceLT, true_and, and_self]
theorem s_symbolOf (d : Nat) (S : zS) (c fld : Int) (h : 2 ≤ d) (hfl : fld = 0 ∨ fld = 1) : zD d 56 [vi c, vi fld] S = some (.inl (some (vi (qxsg c fld))), S) := by
  obtain ⟨e, rfl, h0⟩ := qd h
  have sg := s_signOf e S c h0
  by_cases h1 : c = 60
  · subst h1
    simp (config := { maxSteps := 2000000 }) (disch := first | omega | (simp only [qb_in, qkW, qmW, qnW, true_and, and_true, or_self, true_or, or_true, and_self]; done) | (simp only [qb_in, qkW, qmW, qnW, true_and, and_true, or_self, true_or, or_true, and_self]; omega)) only [zD_56, b56_0, b56_68, b56_71, b56_74, b56_77, b56_81, b56_86, b56_88, b56_89, b56_93, b56_98, b56_100, b56_101, b56_105, b56_110, b56_112, b56_113, b56_117, b56_122, b56_124, b56_125, b56_129, i56, w56_1, qcall_l, qcall_r, qretn_l, qJ_s, qJ_n, qV0, qEx, ↓qif0, ↓zchk_pos, ↓reduceIte, qput, qWW, qmW, qkW, qnW, Int.reduceEq, Int.reduceLE, Int.reduceLT, true_and, and_self]
    rfl
  by_cases h2 : c = 35
  · subst h2
    simp (config := { maxSteps := 2000000 }) (disch := first | omega | (simp only [qb_in, qkW, qmW, qnW, true_and, and_true, or_self, true_or, or_true, and_self]; done) | (simp only [qb_in, qkW, qmW, qnW, true_and, and_true, or_self, true_or, or_true, and_self]; omega)) only [zD_56, b56_0, b56_68, b56_71, b56_74, b56_77, b56_81, b56_86, b56_88, b56_89, b56_93, b56_98, b56_100, b56_101, b56_105, b56_110, b56_112, b56_113, b56_117, b56_122, b56_124, b56_125, b56_129, i56, w56_1, qcall_l, qcall_r, qretn_l, qJ_s, qJ_n, qV0, qEx, ↓qif0, ↓zchk_pos, ↓reduceIte, qput, qWW, qmW, qkW, qnW, Int.reduceEq, Int.reduceLE, Int.reduceLT, true_and, and_self]
    rfl
  by_cases h3 : c = 28
  · subst h3
    simp (config := { maxSteps := 2000000 }) (disch := first | omega | (simp only [qb_in, qkW, qmW, qnW, true_and, and_true, or_self, true_or, or_true, and_self]; done) | (simp only [qb_in, qkW, qmW, qnW, true_and, and_true, or_self, true_or, or_true, and_self]; omega)) only [zD_56, b56_0, b56_68, b56_71, b56_74, b56_77, b56_81, b56_86, b56_88, b56_89, b56_93, b56_98, b56_100, b56_101, b56_105, b56_110, b56_112, b56_113, b56_117, b56_122, b56_124, b56_125, b56_129, i56, w56_1, qcall_l, qcall_r, qretn_l, qJ_s, qJ_n, qV0, qEx, ↓qif0, ↓zchk_pos, ↓reduceIte, qput, qWW, qmW, qkW, qnW, Int.reduceEq, Int.reduceLE, Int.reduceLT, true_and, and_self]
    rfl
  by_cases h4 : c = 55
  · subst h4
    rcases hfl with rfl | rfl
    · simp (config := { maxSteps := 2000000 }) (disch := first | omega | (simp only [qb_in, qkW, qmW, qnW, true_and, and_true, or_self, true_or, or_true, and_self]; done) | (simp only [qb_in, qkW, qmW, qnW, true_and, and_true, or_self, true_or, or_true, and_self]; omega)) only [zD_56, b56_0, b56_68, b56_71, b56_74, b56_77, b56_81, b56_86, b56_88, b56_89, b56_93, b56_98, b56_100, b56_101, b56_105, b56_110, b56_112, b56_113, b56_117, b56_122, b56_124, b56_125, b56_129, i56, w56_1, qcall_l, qcall_r, qretn_l, qJ_s, qJ_n, qV0, qEx, ↓qif0, ↓zchk_pos, ↓reduceIte, qput, qWW, qmW, qkW, qnW, Int.reduceEq, Int.reduceLE, Int.reduceLT, true_and, and_self]
      rfl
    · simp (config := { maxSteps := 2000000 }) (disch := first | omega | (simp only [qb_in, qkW, qmW, qnW, true_and, and_true, or_self, true_or, or_true, and_self]; done) | (simp only [qb_in, qkW, qmW, qnW, true_and, and_true, or_self, true_or, or_true, and_self]; omega)) only [zD_56, b56_0, b56_68, b56_71, b56_74, b56_77, b56_81, b56_86, b56_88, b56_89, b56_93, b56_98, b56_100, b56_101, b56_105, b56_110, b56_112, b56_113, b56_117, b56_122, b56_124, b56_125, b56_129, i56, w56_1, qcall_l, qcall_r, qretn_l, qJ_s, qJ_n, qV0, qEx, ↓qif0, ↓zchk_pos, ↓reduceIte, qput, qWW, qmW, qkW, qnW, Int.reduceEq, Int.reduceLE, Int.reduceLT, true_and, and_self]
      rfl
  by_cases h5 : c = 62
  · subst h5
    rcases hfl with rfl | rfl
    · simp (config := { maxSteps := 2000000 }) (disch := first | omega | (simp only [qb_in, qkW, qmW, qnW, true_and, and_true, or_self, true_or, or_true, and_self]; done) | (simp only [qb_in, qkW, qmW, qnW, true_and, and_true, or_self, true_or, or_true, and_self]; omega)) only [zD_56, b56_0, b56_68, b56_71, b56_74, b56_77, b56_81, b56_86, b56_88, b56_89, b56_93, b56_98, b56_100, b56_101, b56_105, b56_110, b56_112, b56_113, b56_117, b56_122, b56_124, b56_125, b56_129, i56, w56_1, qcall_l, qcall_r, qretn_l, qJ_s, qJ_n, qV0, qEx, ↓qif0, ↓zchk_pos, ↓reduceIte, qput, qWW, qmW, qkW, qnW, Int.reduceEq, Int.reduceLE, Int.reduceLT, true_and, and_self]
      rfl
    · simp (config := { maxSteps := 2000000 }) (disch := first | omega | (simp only [qb_in, qkW, qmW, qnW, true_and, and_true, or_self, true_or, or_true, and_self]; done) | (simp only [qb_in, qkW, qmW, qnW, true_and, and_true, or_self, true_or, or_true, and_self]; omega)) only [zD_56, b56_0, b56_68, b56_71, b56_74, b56_77, b56_81, b56_86, b56_88, b56_89, b56_93, b56_98, b56_100, b56_101, b56_105, b56_110, b56_112, b56_113, b56_117, b56_122, b56_124, b56_125, b56_129, i56, w56_1, qcall_l, qcall_r, qretn_l, qJ_s, qJ_n, qV0, qEx, ↓qif0, ↓zchk_pos, ↓reduceIte, qput, qWW, qmW, qkW, qnW, Int.reduceEq, Int.reduceLE, Int.reduceLT, true_and, and_self]
      rfl
  by_cases h6 : c = 24
  · subst h6
    rcases hfl with rfl | rfl
    · simp (config := { maxSteps := 2000000 }) (disch := first | omega | (simp only [qb_in, qkW, qmW, qnW, true_and, and_true, or_self, true_or, or_true, and_self]; done) | (simp only [qb_in, qkW, qmW, qnW, true_and, and_true, or_self, true_or, or_true, and_self]; omega)) only [zD_56, b56_0, b56_68, b56_71, b56_74, b56_77, b56_81, b56_86, b56_88, b56_89, b56_93, b56_98, b56_100, b56_101, b56_105, b56_110, b56_112, b56_113, b56_117, b56_122, b56_124, b56_125, b56_129, i56, w56_1, qcall_l, qcall_r, qretn_l, qJ_s, qJ_n, qV0, qEx, ↓qif0, ↓zchk_pos, ↓reduceIte, qput, qWW, qmW, qkW, qnW, Int.reduceEq, Int.reduceLE, Int.reduceLT, true_and, and_self]
      rfl
    · simp (config := { maxSteps := 2000000 }) (disch := first | omega | (simp only [qb_in, qkW, qmW, qnW, true_and, and_true, or_self, true_or, or_true, and_self]; done) | (simp only [qb_in, qkW, qmW, qnW, true_and, and_true, or_self, true_or, or_true, and_self]; omega)) only [zD_56, b56_0, b56_68, b56_71, b56_74, b56_77, b56_81, b56_86, b56_88, b56_89, b56_93, b56_98, b56_100, b56_101, b56_105, b56_110, b56_112, b56_113, b56_117, b56_122, b56_124, b56_125, b56_129, i56, w56_1, qcall_l, qcall_r, qretn_l, qJ_s, qJ_n, qV0, qEx, ↓qif0, ↓zchk_pos, ↓reduceIte, qput, qWW, qmW, qkW, qnW, Int.reduceEq, Int.reduceLE, Int.reduceLT, true_and, and_self]
      rfl
  by_cases h7 : c = 16
  · subst h7
    rcases hfl with rfl | rfl
    · simp (config := { maxSteps := 2000000 }) (disch := first | omega | (simp only [qb_in, qkW, qmW, qnW, true_and, and_true, or_self, true_or, or_true, and_self]; done) | (simp only [qb_in, qkW, qmW, qnW, true_and, and_true, or_self, true_or, or_true, and_self]; omega)) only [zD_56, b56_0, b56_68, b56_71, b56_74, b56_77, b56_81, b56_86, b56_88, b56_89, b56_93, b56_98, b56_100, b56_101, b56_105, b56_110, b56_112, b56_113, b56_117, b56_122, b56_124, b56_125, b56_129, i56, w56_1, qcall_l, qcall_r, qretn_l, qJ_s, qJ_n, qV0, qEx, ↓qif0, ↓zchk_pos, ↓reduceIte, qput, qWW, qmW, qkW, qnW, Int.reduceEq, Int.reduceLE, Int.reduceLT, true_and, and_self]
      rfl
    · simp (config := { maxSteps := 2000000 }) (disch := first | omega | (simp only [qb_in, qkW, qmW, qnW, true_and, and_true, or_self, true_or, or_true, and_self]; done) | (simp only [qb_in, qkW, qmW, qnW, true_and, and_true, or_self, true_or, or_true, and_self]; omega)) only [zD_56, b56_0, b56_68, b56_71, b56_74, b56_77, b56_81, b56_86, b56_88, b56_89, b56_93, b56_98, b56_100, b56_101, b56_105, b56_110, b56_112, b56_113, b56_117, b56_122, b56_124, b56_125, b56_129, i56, w56_1, qcall_l, qcall_r, qretn_l, qJ_s, qJ_n, qV0, qEx, ↓qif0, ↓zchk_pos, ↓reduceIte, qput, qWW, qmW, qkW, qnW, Int.reduceEq, Int.reduceLE, Int.reduceLT, true_and, and_self]
      rfl
  have e1 : qxsg c fld = if c = 22 then 43 else if c = 36 then 45 else if c = 20 then 46 else if c = 12 then 47 else if c = 34 then 94 else 32 := by
    unfold qxsg
    rw [if_neg h1, if_neg h2, if_neg h3, if_neg h4, if_neg h5, if_neg h6, if_neg h7]
  rw [← e1] at sg
  have hr : 0 ≤ qxsg c fld ∧ qxsg c fld < 65536 := by
    rw [e1]
    repeat' split
    all_goals decide
  simp (config := { maxSteps := 2000000 }) (disch := first | omega | (simp only [qb_in, qkW, qmW, qnW, true_and, and_true, or_self, true_or, or_true, and_self]; done) | (simp only [qb_in, qkW, qmW, qnW, true_and, and_true, or_self, true_or, or_true, and_self]; omega)) only [zD_56, b56_0, b56_68, b56_71, b56_74, b56_77, b56_81, b56_86, b56_88, b56_89, b56_93, b56_98, b56_100, b56_101, b56_105, b56_110, b56_112, b56_113, b56_117, b56_122, b56_124, b56_125, b56_129, i56, w56_1, qcall_l, qcall_r, qretn_l, qJ_s, qJ_n, qV0, qEx, ↓qif0, ↓zchk_pos, ↓reduceIte, qput, qWW, qmW, qkW, qnW, if_neg h1, if_neg h2, if_neg h3, if_neg h4, if_neg h5, if_neg h6, if_neg h7, sg, hr, true_and, and_self]
theorem qdo_r (c : Int) : -1 ≤ qdo c ∧ qdo c ≤ 9 := by
  have := qlo_r c
  unfold qdo
  repeat' split
  all_goals omega
theorem qxsg_r (c fld : Int) : 0 ≤ qxsg c fld ∧ qxsg c fld < 65536 := by
  unfold qxsg
  repeat' split
  all_goals decide
theorem qxsb_r (fld a c : Int) : 0 ≤ qxsb fld a c ∧ qxsb fld a c < 65536 := by
  have h1 := qdo_r c
  have h2 := qlo_r c
  have h3 := qxsg_r c fld
  unfold qxsb
  split
  · omega
  · split
    · omega
    · exact h3
theorem qxss_r (fld : Int) : ∀ (L : List Int) (a : Int), ∀ v ∈ qxss fld a L, 0 ≤ v ∧ v < 65536 := by
  intro L
  induction L with
  | nil => intro a v hv; simp [qxss] at hv
  | cons c L ih =>
    intro a v hv
    rw [qxss, List.mem_cons] at hv
    rcases hv with rfl | hv
    · exact qxsb_r _ _ _
    · exact ih _ v hv
theorem qnth_m (L : List Int) (i : Int) (h : 0 ≤ i ∧ i < (L.length : Int)) : qnth L i ∈ L := by
  unfold qnth
  rw [List.getD_eq_getElem?_getD, List.getElem?_eq_getElem (by omega)]
  exact List.getElem_mem _
theorem qxm_n : ∀ (L K : List Int), qxm (qsy (qnth (K ++ L)) ((K ++ L).length : Nat)) K.length L := by
  intro L
  induction L with
  | nil => intro K; exact trivial
  | cons c L ih =>
    intro K
    have h := ih (K ++ [c])
    rw [List.append_assoc, List.singleton_append, show ((K ++ [c]).length : Int) = (K.length : Int) + 1 by rw [List.length_append]; rfl] at h
    refine ⟨?_, h⟩
    rw [qsy_i ⟨by omega, by rw [List.length_append, List.length_cons]; omega⟩, qnth_r _ _ _ (Int.le_refl _), Int.sub_self]
    rfl
/-- the cells of a tree, read as a tree -/
theorem qx_read (fld : Int) (hfl : fld = 0 ∨ fld = 1) (x : qTree) (hw : qwf x) (hz : qsz x ≤ 23) : qPx (qsy (qnth (qxps fld x)) (qxps fld x).length) fld 0 0 0 qNl (qxps fld x).length x := by
  have h := qxm_n (qxps fld x) []
  rw [List.nil_append] at h
  have h : qxm (qsy (qnth (qxps fld x)) (qxps fld x).length) 0 (qxps fld x) := h
  have r := qxR_w (qx_back _ fld hfl x hw) (p := 0) (dep := 0) (Int.le_refl 0) (by omega) h qNl (by rw [qsy_n (by omega)]; omega)
  rw [Int.zero_add] at r
  exact r
/-- one cell -/
theorem s_readOne (e : Nat) (S : zS) (fld a c k : Int) (m : Int → Int → Int) (x5 x6 x7 : zV) (h : 2 ≤ e) (hK : qK S) (hP : qFp m 23) (hP2 : qFp m 30) (hL : qLt m) (hfl : fld = 0 ∨ fld = 1) (hk : 0 ≤ k ∧ k < 160) (h1 : m 30 1 = k) (hl : k < m 23 11) (hc : m 29 k = c) (ha : a = 0 ∨ a = 1) :
    zF_55 e 10 [vr 30, vr 23, vi fld, vi a, vi k, x5, x6, x7] [] (qW S m) = zF_55 e 10 [vr 30, vr 23, vi fld, vi (qxsn a c), vi (k + 1), vu, vu, vu] [] (qW S (qu (qu m 31 k (qxsb fld a c)) 30 1 (k + 1))) := by
  have ap := fun v h => s_appendSymbol e (qW S m) 30 k v (by omega) (qFk_30 hK) hP2 h1 hk h
  have ap : ∀ v, 0 ≤ v ∧ v < 65536 → zD e 58 [vr 30, vi v] (qW S m) = some (.inl none, qW S (qu (qu m 31 k v) 30 1 (k + 1))) := ap
  have dg := s_digitOf e (qW S m) c h hK hL
  have lt := s_letterOf e (qW S m) c (by omega) hK hL
  have sy := s_symbolOf e (qW S m) c fld h hfl
  have p10 : m 23 10 = 29 := hP.2.2.2.2.2
  have dr := qdo_r c
  have lr := qlo_r c
  have sr := qxsg_r c fld
  have d48 : (48 + qdo c) % 65536 = 48 + qdo c := by omega
  have l97 : (97 + qlo c) % 65536 = 97 + qlo c := by omega
  rw [b55_10]
  by_cases c1 : c = 60
  · have k1 : qdo c = -1 := by rw [c1]; decide
    have k2 : qlo c = -1 := by rw [c1]; decide
    have n1 : qxsn a c = 1 := if_pos (Or.inl c1)
    have n2 : qxsb fld a c = qxsg c fld := by
      unfold qxsb
      rw [if_neg (fun z => z.2 k1), if_neg (fun z => z k2)]
    rw [n1, n2]
    have ap1 := ap _ sr
    simp (config := { maxSteps := 2000000 }) (disch := first | omega | (simp only [K_23 hK, K_29 hK, K_30 hK, p10, qb_in, qkW, qmW, qnW, true_and, and_true, or_self, true_or, or_true, and_self]; done) | (simp only [K_23 hK, K_29 hK, K_30 hK, p10, qb_in, qkW, qmW, qnW, true_and, and_true, or_self, true_or, or_true, and_self]; omega)) only [b55_0, b55_19, b55_33, b55_40, b55_49, b55_53, b55_59, b55_63, b55_64, b55_69, b55_75, b55_85, b55_88, b55_94, b55_104, b55_107, b55_114, b55_117, b55_123, b55_128, qcall_l, qcall_r, qretn_l, qJ_s, qJ_n, qV0, qEx, ↓qif0, ↓zchk_pos, ↓reduceIte, qput, qWW, qmW, qkW, qnW, K_23 hK, K_29 hK, K_30 hK, if_pos hl, p10, hc, dg, lt, sy, if_pos c1, if_pos k1, if_pos k2, ap1, q32, Int.reduceEq]
  · by_cases c2 : a = 0 ∨ qdo c = -1
    · have n1 : qxsn a c = 0 := if_neg (by
        intro z
        rcases z with z | ⟨z1, z2⟩
        · exact c1 z
        · rcases c2 with c2 | c2
          · exact z1 c2
          · exact z2 c2)
      have n2 : qxsb fld a c = if ¬ qlo c = -1 then 97 + qlo c else qxsg c fld := by
        unfold qxsb
        rw [n1, if_neg (fun z => z.1 rfl)]
      rw [n1, n2]
      by_cases c3 : qlo c = -1
      · rw [show (if ¬ qlo c = -1 then 97 + qlo c else qxsg c fld) = qxsg c fld from if_neg (fun z => z c3)]
        have ap1 := ap _ sr
        rcases c2 with c2 | c2
        · simp (config := { maxSteps := 2000000 }) (disch := first | omega | (simp only [K_23 hK, K_29 hK, K_30 hK, p10, qb_in, qkW, qmW, qnW, true_and, and_true, or_self, true_or, or_true, and_self]; done) | (simp only [K_23 hK, K_29 hK, K_30 hK, p10, qb_in, qkW, qmW, qnW, true_and, and_true, or_self, true_or, or_true, and_self]; omega)) only [b55_0, b55_19, b55_33, b55_40, b55_49, b55_53, b55_59, b55_63, b55_64, b55_69, b55_75, b55_85, b55_88, b55_94, b55_104, b55_107, b55_114, b55_117, b55_123, b55_128, qcall_l, qcall_r, qretn_l, qJ_s, qJ_n, qV0, qEx, ↓qif0, ↓zchk_pos, ↓reduceIte, qput, qWW, qmW, qkW, qnW, K_23 hK, K_29 hK, K_30 hK, if_pos hl, p10, hc, dg, lt, sy, if_neg c1, if_pos c2, if_pos c3, ap1, q32, Int.reduceEq]
        · by_cases c4 : a = 0
          · simp (config := { maxSteps := 2000000 }) (disch := first | omega | (simp only [K_23 hK, K_29 hK, K_30 hK, p10, qb_in, qkW, qmW, qnW, true_and, and_true, or_self, true_or, or_true, and_self]; done) | (simp only [K_23 hK, K_29 hK, K_30 hK, p10, qb_in, qkW, qmW, qnW, true_and, and_true, or_self, true_or, or_true, and_self]; omega)) only [b55_0, b55_19, b55_33, b55_40, b55_49, b55_53, b55_59, b55_63, b55_64, b55_69, b55_75, b55_85, b55_88, b55_94, b55_104, b55_107, b55_114, b55_117, b55_123, b55_128, qcall_l, qcall_r, qretn_l, qJ_s, qJ_n, qV0, qEx, ↓qif0, ↓zchk_pos, ↓reduceIte, qput, qWW, qmW, qkW, qnW, K_23 hK, K_29 hK, K_30 hK, if_pos hl, p10, hc, dg, lt, sy, if_neg c1, if_pos c4, if_pos c3, ap1, q32, Int.reduceEq]
          · simp (config := { maxSteps := 2000000 }) (disch := first | omega | (simp only [K_23 hK, K_29 hK, K_30 hK, p10, qb_in, qkW, qmW, qnW, true_and, and_true, or_self, true_or, or_true, and_self]; done) | (simp only [K_23 hK, K_29 hK, K_30 hK, p10, qb_in, qkW, qmW, qnW, true_and, and_true, or_self, true_or, or_true, and_self]; omega)) only [b55_0, b55_19, b55_33, b55_40, b55_49, b55_53, b55_59, b55_63, b55_64, b55_69, b55_75, b55_85, b55_88, b55_94, b55_104, b55_107, b55_114, b55_117, b55_123, b55_128, qcall_l, qcall_r, qretn_l, qJ_s, qJ_n, qV0, qEx, ↓qif0, ↓zchk_pos, ↓reduceIte, qput, qWW, qmW, qkW, qnW, K_23 hK, K_29 hK, K_30 hK, if_pos hl, p10, hc, dg, lt, sy, if_neg c1, if_neg c4, if_pos c2, if_pos c3, ap1, q32, Int.reduceEq]
      · rw [show (if ¬ qlo c = -1 then 97 + qlo c else qxsg c fld) = 97 + qlo c from if_pos c3]
        have ap1 := ap (97 + qlo c) (by omega)
        rcases c2 with c2 | c2
        · simp (config := { maxSteps := 2000000 }) (disch := first | omega | (simp only [K_23 hK, K_29 hK, K_30 hK, p10, qb_in, qkW, qmW, qnW, true_and, and_true, or_self, true_or, or_true, and_self]; done) | (simp only [K_23 hK, K_29 hK, K_30 hK, p10, qb_in, qkW, qmW, qnW, true_and, and_true, or_self, true_or, or_true, and_self]; omega)) only [b55_0, b55_19, b55_33, b55_40, b55_49, b55_53, b55_59, b55_63, b55_64, b55_69, b55_75, b55_85, b55_88, b55_94, b55_104, b55_107, b55_114, b55_117, b55_123, b55_128, qcall_l, qcall_r, qretn_l, qJ_s, qJ_n, qV0, qEx, ↓qif0, ↓zchk_pos, ↓reduceIte, qput, qWW, qmW, qkW, qnW, K_23 hK, K_29 hK, K_30 hK, if_pos hl, p10, hc, dg, lt, sy, if_neg c1, if_pos c2, if_neg c3, l97, ap1, q32, Int.reduceEq]
        · by_cases c4 : a = 0
          · simp (config := { maxSteps := 2000000 }) (disch := first | omega | (simp only [K_23 hK, K_29 hK, K_30 hK, p10, qb_in, qkW, qmW, qnW, true_and, and_true, or_self, true_or, or_true, and_self]; done) | (simp only [K_23 hK, K_29 hK, K_30 hK, p10, qb_in, qkW, qmW, qnW, true_and, and_true, or_self, true_or, or_true, and_self]; omega)) only [b55_0, b55_19, b55_33, b55_40, b55_49, b55_53, b55_59, b55_63, b55_64, b55_69, b55_75, b55_85, b55_88, b55_94, b55_104, b55_107, b55_114, b55_117, b55_123, b55_128, qcall_l, qcall_r, qretn_l, qJ_s, qJ_n, qV0, qEx, ↓qif0, ↓zchk_pos, ↓reduceIte, qput, qWW, qmW, qkW, qnW, K_23 hK, K_29 hK, K_30 hK, if_pos hl, p10, hc, dg, lt, sy, if_neg c1, if_pos c4, if_neg c3, l97, ap1, q32, Int.reduceEq]
          · simp (config := { maxSteps := 2000000 }) (disch := first | omega | (simp only [K_23 hK, K_29 hK, K_30 hK, p10, qb_in, qkW, qmW, qnW, true_and, and_true, or_self, true_or, or_true, and_self]; done) | (simp only [K_23 hK, K_29 hK, K_30 hK, p10, qb_in, qkW, qmW, qnW, true_and, and_true, or_self, true_or, or_true, and_self]; omega)) only [b55_0, b55_19, b55_33, b55_40, b55_49, b55_53, b55_59, b55_63, b55_64, b55_69, b55_75, b55_85, b55_88, b55_94, b55_104, b55_107, b55_114, b55_117, b55_123, b55_128, qcall_l, qcall_r, qretn_l, qJ_s, qJ_n, qV0, qEx, ↓qif0, ↓zchk_pos, ↓reduceIte, qput, qWW, qmW, qkW, qnW, K_23 hK, K_29 hK, K_30 hK, if_pos hl, p10, hc, dg, lt, sy, if_neg c1, if_neg c4, if_pos c2, if_neg c3, l97, ap1, q32, Int.reduceEq]
    · have c3 : ¬ a = 0 := fun z => c2 (Or.inl z)
      have c4 : ¬ qdo c = -1 := fun z => c2 (Or.inr z)
      have n1 : qxsn a c = 1 := if_pos (Or.inr ⟨c3, c4⟩)
      have n2 : qxsb fld a c = 48 + qdo c := by
        unfold qxsb
        rw [n1, if_pos ⟨by decide, c4⟩]
      rw [n1, n2]
      have ap1 := ap (48 + qdo c) (by omega)
      simp (config := { maxSteps := 2000000 }) (disch := first | omega | (simp only [K_23 hK, K_29 hK, K_30 hK, p10, qb_in, qkW, qmW, qnW, true_and, and_true, or_self, true_or, or_true, and_self]; done) | (simp only [K_23 hK, K_29 hK, K_30 hK, p10, qb_in, qkW, qmW, qnW, true_and, and_true, or_self, true_or, or_true, and_self]; omega)) only [b55_0, b55_19, b55_33, b55_40, b55_49, b55_53, b55_59, b55_63, b55_64, b55_69, b55_75, b55_85, b55_88, b55_94, b55_104, b55_107, b55_114, b55_117, b55_123, b55_128, qcall_l, qcall_r, qretn_l, qJ_s, qJ_n, qV0, qEx, ↓qif0, ↓zchk_pos, ↓reduceIte, qput, qWW, qmW, qkW, qnW, K_23 hK, K_29 hK, K_30 hK, if_pos hl, p10, hc, dg, lt, sy, if_neg c1, if_neg c3, if_neg c4, d48, ap1, q32, Int.reduceEq]
