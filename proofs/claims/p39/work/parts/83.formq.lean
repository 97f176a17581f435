/-! Questions for formulas: both answer alike. -/
theorem qTv_fr {S : zS} {m m' : Int → Int → Int} {t : Int → Int} {n : Int} {A J : List Int} (h : qTv (qW S m) t n) (f : qfr A J m m') (a : (38 : Int) ∉ A) (b : (1 : Int) ∉ J) (c : (2 : Int) ∉ J) : qTv (qW S m') t n := by
  obtain ⟨h1, h2, h3, h4⟩ := h
  exact ⟨h1, by show m' 37 1 = 38; rw [f.2 1 b]; exact h2, by show m' 37 2 = n; rw [f.2 2 c]; exact h3, by show m' 38 = t; rw [f.1 38 (by decide) a]; exact h4⟩
theorem r_tree (d : Nat) (S : zS) (t : Int → Int) (n : Int) (x : qTree) (m : Int → Int → Int) (h : 3 ≤ d) (hn : 0 ≤ n ∧ n ≤ 60) (hr : ∀ i, 0 ≤ i → i < n → 0 ≤ t i ∧ t i < 65536) (hq : ∀ i, 0 ≤ i → i < n → t i ≠ 91 ∧ t i ≠ 35) (hv : qTv (qW S m) t n) (hP : qP m) (hx : qPx (qsy t n) 0 0 0 0 qNl n x) (hz : qsz x ≤ 23) :
    ∃ m' r, zD d 240 [vr 37] (qW S m) = some (.inl (some (vi r)), qW S m') ∧ (0 ≤ r ∧ r < qsz x) ∧ qrr m' t n x r ∧ qfr [95, 96, 97, 98, 99] [83, 88, 90] m m' := by
  obtain ⟨e, rfl, h2⟩ := qd h
  have hK : qK S := hv.1
  obtain ⟨f, hx⟩ := hx
  have f0 : qfr [95, 96, 97, 98, 99] [83, 88, 90] m (qu (qu (qu m 37 83 0) 37 88 0) 37 90 0) := qfr_t' (qfr_t' (qfr_j _ _ _ (by decide)) (qfr_j (A := [95, 96, 97, 98, 99]) (J := [83, 88, 90]) _ _ _ (by decide)) (fun _ h => h) fun _ h => h) (qfr_j (A := [95, 96, 97, 98, 99]) (J := [83, 88, 90]) _ _ _ (by decide)) (fun _ h => h) fun _ h => h
  have s0 : qTs (qu (qu (qu m 37 83 0) 37 88 0) 37 90 0) 0 [] [] := ⟨by rw [qu_i _ _ _ _ _ (by decide), qu_i _ _ _ _ _ (by decide), qu_s], by rw [qu_i _ _ _ _ _ (by decide), qu_s]; rfl, by rw [qu_s]; rfl, qA_nil _ _, qA_nil _ _⟩
  have hv0 := qTv_fr hv f0 (by decide) (by decide) (by decide)
  have hP0 := qP_fr hP f0 (by decide)
  obtain ⟨m1, y2, y3, fr, hh, xk, bb, e1, p1, p2, p3, p4, p5, p6, p7, p8⟩ := (r_parse S t n e h2 hn hr hq f).1 0 0 n 0 [] [] qNl x _ vu vu hx hv0 hP0 s0 (Int.le_refl 0) hn.1 (Int.le_refl 0) (by omega) (by simp) (by simp) (Or.inl rfl)
  have hP1 := qP_fr hP0 p6.1 (by decide)
  obtain ⟨m2, r, e2, q1, f2⟩ := r_flushE e S t n h2 hK fr.length fr hh xk bb m1 (vi n) vu vu rfl hP1 p1 (by omega) (by omega)
  have g2 : m1 37 2 = n := (qTv_fr hv0 p6.1 (by decide) (by decide) (by decide)).2.2.1
  rw [← p2, p3, Int.zero_add] at q1
  refine ⟨m2, r, ?_, q1.2.1, q1.2.2.1, qfr_t' (qfr_t' f0 p6.1 (fun _ h => h) fun _ h => h) f2.1 (fun _ h => h) fun _ h => h⟩
  have e3 : zF_240 e 17 [vr 37, vi 0, vu, vu] [] (qW S (qu (qu (qu m 37 83 0) 37 88 0) 37 90 0)) = some (.inl (some (vi r)), qW S m2) := by
    rw [e1, ← e2, b240_17]
    simp (config := { maxSteps := 2000000 }) (disch := first | omega | (simp only [K_37 hK, qb_in, qkW, qmW, qnW, true_and, and_true, or_self, true_or, or_true, and_self]; done) | (simp only [K_37 hK, qb_in, qkW, qmW, qnW, true_and, and_true, or_self, true_or, or_true, and_self]; omega)) only [b240_0, b240_16, b240_25, b240_30, b240_35, b240_38, b240_45, b240_48, b240_51, b240_57, b240_67, b240_70, b240_74, b240_77, b240_85, b240_88, b240_110, b240_114, b240_117, b240_130, b240_134, b240_141, b240_148, b240_162, b240_166, b240_180, b240_184, b240_189, b240_193, b240_196, b240_212, b240_216, b240_219, b240_229, b240_233, b240_236, qcall_l, qcall_r, qretn_l, qJ_s, qJ_n, qV0, qEx, ↓qif0, ↓zchk_pos, ↓reduceIte, qput, qWW, qmW, qkW, qnW, K_37 hK, g2, Int.lt_irrefl]
  simp (config := { maxSteps := 2000000 }) (disch := first | omega | (simp only [K_37 hK, qb_in, qkW, qmW, qnW, true_and, and_true, or_self, true_or, or_true, and_self]; done) | (simp only [K_37 hK, qb_in, qkW, qmW, qnW, true_and, and_true, or_self, true_or, or_true, and_self]; omega)) only [zD_240, b240_0, b240_16, b240_25, b240_30, b240_35, b240_38, b240_45, b240_48, b240_51, b240_57, b240_67, b240_70, b240_74, b240_77, b240_85, b240_88, b240_110, b240_114, b240_117, b240_130, b240_134, b240_141, b240_148, b240_162, b240_166, b240_180, b240_184, b240_189, b240_193, b240_196, b240_212, b240_216, b240_219, b240_229, b240_233, b240_236, qcall_l, qcall_r, qretn_l, qJ_s, qJ_n, qV0, qEx, ↓qif0, ↓zchk_pos, ↓reduceIte, qput, qWW, qmW, qkW, qnW, K_37 hK]
  exact e3
theorem r_tells (d : Nat) (S : zS) (t : Int → Int) (n fld : Int) (x : qTree) (m : Int → Int → Int) (h : 8 ≤ d) (hn : 0 ≤ n ∧ n ≤ 60) (hr : ∀ i, 0 ≤ i → i < n → 0 ≤ t i ∧ t i < 65536) (hq : ∀ i, 0 ≤ i → i < n → t i ≠ 91 ∧ t i ≠ 35) (hv : qTv (qW S m) t n) (hP : qP m) (hfl : fld = 0 ∨ fld = 1) (hx : qPx (qsy t n) 0 0 0 0 qNl n x) (hw : qwf x) (hz : qsz x ≤ 23) :
    ∃ m', zD d 248 [vr 37, vi fld] (qW S m) = some (.inl none, qW S m') ∧ m' 37 92 = (qpr fld x).length ∧ qA m' 100 (qpr fld x) ∧ qfr [95, 96, 97, 98, 99, 100, 101] [83, 88, 90, 92, 94] m m' := by
  obtain ⟨e, rfl, h2⟩ := qd h
  have hK : qK S := hv.1
  have f0 : qfr [95, 96, 97, 98, 99, 100, 101] [83, 88, 90, 92, 94] m (qu (qu m 37 92 0) 37 94 0) := qfr_t' (qfr_j _ _ _ (by decide)) (qfr_j (A := [95, 96, 97, 98, 99, 100, 101]) (J := [83, 88, 90, 92, 94]) _ _ _ (by decide)) (fun _ h => h) fun _ h => h
  obtain ⟨m1, r, e1, hi, c1, f1⟩ := r_tree e S t n x _ (by omega) hn hr hq (qTv_fr hv f0 (by decide) (by decide) (by decide)) (qP_fr hP f0 (by decide)) hx hz
  have f01 : qfr [95, 96, 97, 98, 99, 100, 101] [83, 88, 90, 92, 94] m m1 := qfr_t' f0 f1 (by decide) (by decide)
  have s1 : qTk2 m1 [] [] := ⟨by rw [f1.2 94 (by decide), qu_s]; rfl, qA_nil _ _, by rw [f1.2 92 (by decide), qu_i _ _ _ _ _ (by decide), qu_s]; rfl, qA_nil _ _⟩
  obtain ⟨m2, e2, s2, f2⟩ := r_does e S r [] [] m1 (by omega) hK (qP_fr hP f01 (by decide)) s1 (by decide)
  have f02 : qfr [95, 96, 97, 98, 99, 100, 101] [83, 88, 90, 92, 94] m m2 := qfr_t' f01 f2 (by decide) (by decide)
  have hw1 := qsz_1 x hw
  obtain ⟨m3, e3, s3, f3⟩ := rt_run S t n (qsz x) fld e (by omega) hn.2 hr (by omega) hfl x hw r [] [] m2 vu (qTv_fr hv f02 (by decide) (by decide) (by decide)) (qP_fr hP f02 (by decide)) s2 (qrr_z f2 hw c1) hi (by show 0 + 8 * qsz x ≤ 190; omega) (by show 0 + 5 * qsz x ≤ 390; omega)
  rw [List.nil_append] at s3
  refine ⟨m3, ?_, s3.2.2.1, s3.2.2.2, qfr_t' f02 f3 (by decide) (by decide)⟩
  have e4 : zF_248 e 18 [vr 37, vi fld, vu] [] (qW S m2) = some (.inl none, qW S m3) := by
    have g := s3.1
    rw [e3, b248_18]
    simp (config := { maxSteps := 2000000 }) (disch := first | omega | (simp only [K_37 hK, qb_in, qkW, qmW, qnW, true_and, and_true, or_self, true_or, or_true, and_self]; done) | (simp only [K_37 hK, qb_in, qkW, qmW, qnW, true_and, and_true, or_self, true_or, or_true, and_self]; omega)) only [b248_0, b248_15, b248_25, b248_43, b248_49, b248_56, b248_59, b248_65, b248_68, qcall_l, qcall_r, qretn_l, qJ_s, qJ_n, qV0, qEx, ↓qif0, ↓zchk_pos, ↓reduceIte, qput, qWW, qmW, qkW, qnW, K_37 hK, g, show ((([] : List Int).length : Nat) : Int) = 0 from rfl, Int.lt_irrefl]
  simp (config := { maxSteps := 2000000 }) (disch := first | omega | (simp only [K_37 hK, qb_in, qkW, qmW, qnW, true_and, and_true, or_self, true_or, or_true, and_self]; done) | (simp only [K_37 hK, qb_in, qkW, qmW, qnW, true_and, and_true, or_self, true_or, or_true, and_self]; omega)) only [zD_248, b248_0, b248_15, b248_25, b248_43, b248_49, b248_56, b248_59, b248_65, b248_68, qcall_l, qcall_r, qretn_l, qJ_s, qJ_n, qV0, qEx, ↓qif0, ↓zchk_pos, ↓reduceIte, qput, qWW, qmW, qkW, qnW, K_37 hK, e1, e2]
  exact e4
theorem s_checkWhich_n (d : Nat) (S : zS) (w : Int) (h : 1 ≤ d) (hw : ¬ (0 ≤ w ∧ w ≤ 1)) : zD d 157 [vi w] S = some (.inr 0, zbump S) := by
  obtain ⟨e, rfl, -⟩ := qd h
  by_cases h1 : w < 0
  · simp (config := { maxSteps := 2000000 }) (disch := first | omega | (simp only [qb_in, qkW, qmW, qnW, true_and, and_true, or_self, true_or, or_true, and_self]; done) | (simp only [qb_in, qkW, qmW, qnW, true_and, and_true, or_self, true_or, or_true, and_self]; omega)) only [zD_157, b157_0, b157_4, b157_9, b157_20, qcall_l, qcall_r, qretn_l, qJ_s, qJ_n, qV0, qEx, ↓qif0, ↓zchk_pos, ↓reduceIte, qput, qWW, qmW, qkW, qnW, if_pos h1]
  · simp (config := { maxSteps := 2000000 }) (disch := first | omega | (simp only [qb_in, qkW, qmW, qnW, true_and, and_true, or_self, true_or, or_true, and_self]; done) | (simp only [qb_in, qkW, qmW, qnW, true_and, and_true, or_self, true_or, or_true, and_self]; omega)) only [zD_157, b157_0, b157_4, b157_9, b157_20, qcall_l, qcall_r, qretn_l, qJ_s, qJ_n, qV0, qEx, ↓qif0, ↓zchk_pos, ↓reduceIte, qput, qWW, qmW, qkW, qnW, if_neg h1, if_pos (show 1 < w by omega)]
theorem s_checkWhich_y (d : Nat) (S : zS) (w : Int) (h : 1 ≤ d) (hw : 0 ≤ w ∧ w ≤ 1) : zD d 157 [vi w] S = some (.inl none, S) := by
  obtain ⟨e, rfl, -⟩ := qd h
  simp (config := { maxSteps := 2000000 }) (disch := first | omega | (simp only [qb_in, qkW, qmW, qnW, true_and, and_true, or_self, true_or, or_true, and_self]; done) | (simp only [qb_in, qkW, qmW, qnW, true_and, and_true, or_self, true_or, or_true, and_self]; omega)) only [zD_157, b157_0, b157_4, b157_9, b157_20, qcall_l, qcall_r, qretn_l, qJ_s, qJ_n, qV0, qEx, ↓qif0, ↓zchk_pos, ↓reduceIte, qput, qWW, qmW, qkW, qnW, if_neg (show ¬ w < 0 by omega), if_neg (show ¬ 1 < w by omega)]
theorem s_faultF (d : Nat) (S : zS) (h : 3 ≤ d) (hK : qK S) (hP : qP (zm S)) (hT : qRT S) : zD d 101 [vr 4] S = some (.inl (some (vi (qff1 (zm S 38) (zm S 37 2)))), S) := by
  have r := s_faultAsFormula d S (zm S 37 2) (zm S 5) h hK (P_4_0 hP) hT.1 rfl hT.2.1
  rw [qff1_e hT.2.2.1 hT.2.1.1] at r
  exact r
theorem s_writeFormula_n (d : Nat) (S : zS) (w : Int) (h : 4 ≤ d) (hK : qK S) (hP : qP (zm S)) (hT : qRT S) (hf : ¬ qff1 (zm S 38) (zm S 37 2) = -1) : zD d 162 [vr 3, vi w] S = some (.inr 1, zbump S) := by
  obtain ⟨e, rfl, h1⟩ := qd h
  have r := s_faultF e S (by omega) hK hP hT
  simp (config := { maxSteps := 2000000 }) (disch := first | omega | (simp only [K_3 hK, K_4 hK, P_3_0 hP, P_3_0 hP, qb_in, qkW, qmW, qnW, true_and, and_true, or_self, true_or, or_true, and_self]; done) | (simp only [K_3 hK, K_4 hK, P_3_0 hP, P_3_0 hP, qb_in, qkW, qmW, qnW, true_and, and_true, or_self, true_or, or_true, and_self]; omega)) only [zD_162, b162_0, b162_7, b162_11, b162_22, b162_33, b162_42, b162_46, b162_47, b162_50, qcall_l, qcall_r, qretn_l, qJ_s, qJ_n, qV0, qEx, ↓qif0, ↓zchk_pos, ↓reduceIte, qput, qWW, qmW, qkW, qnW, K_3 hK, K_4 hK, P_3_0 hP, P_3_0 hP, r, if_neg hf]
theorem s_writeFormula_y (d : Nat) (S : zS) (w : Int) (x : qTree) (h : 190 ≤ d) (hK : qK S) (hP : qP (zm S)) (hL : qLt (zm S)) (hT : qRT S) (hw : w = 0 ∨ w = 1) (hf : qff1 (zm S 38) (zm S 37 2) = -1) (hx : qPx (qsy (zm S 38) (zm S 37 2)) 0 0 0 0 qNl (zm S 37 2) x) (wx : qwf x) (hz : qsz x ≤ 23) :
    ∃ m', zD d 162 [vr 3, vi w] S = some (.inl none, qW S m') ∧ qHo m' 23 x ∧ qCl m' 23 (qpr w x) ∧ qFq S m' := by
  obtain ⟨e, rfl, h1⟩ := qd h
  have r := s_faultF e S (by omega) hK hP hT
  obtain ⟨m1, r1, a1, a2, a3⟩ := s_readTape e S (zm S 37 2) (zm S 5) x (by omega) hK hP hT.1 rfl hT.2.1 (fun i i1 i2 => by rw [hT.2.2.1 i i2]; exact hT.2.2.2 i i1 i2) (by rw [qsy_e hT.2.2.1]; exact hx) wx (by omega)
  obtain ⟨m2, r2, b1, b2, b3, b4⟩ := s_writeTree e (qW S m1) 23 w x (by omega) hK (qFk_23 hK) (by decide) hw (fun q hq => by show m1 2 q.1 = q.2; rw [a2 2 (by decide)]; exact hL q hq) a1 wx hz (fun v q hq => by
    show qu (qu m1 23 11 v) 23 3 w 2 q.1 = q.2
    rw [qu_o _ _ _ _ _ (by decide), qu_o _ _ _ _ _ (by decide), a2 2 (by decide)]
    exact hL q hq)
  have r2 : zD e 72 [vr 23, vi w] (qW S m1) = some (.inl none, qW S m2) := r2
  have e3 : m1 3 = zm S 3 := a2 3 (by decide)
  refine ⟨m2, ?_, b1, b2, fun a j q => ?_⟩
  · rcases hw with rfl | rfl
    · simp (config := { maxSteps := 2000000 }) (disch := first | omega | (simp only [K_3 hK, K_4 hK, P_3_0 hP, K_23 hK, P_3_16 hP, P_3_0 hP, P_3_16 hP, e3, qb_in, qkW, qmW, qnW, true_and, and_true, or_self, true_or, or_true, and_self]; done) | (simp only [K_3 hK, K_4 hK, P_3_0 hP, K_23 hK, P_3_16 hP, P_3_0 hP, P_3_16 hP, e3, qb_in, qkW, qmW, qnW, true_and, and_true, or_self, true_or, or_true, and_self]; omega)) only [zD_162, b162_0, b162_7, b162_11, b162_22, b162_33, b162_42, b162_46, b162_47, b162_50, qcall_l, qcall_r, qretn_l, qJ_s, qJ_n, qV0, qEx, ↓qif0, ↓zchk_pos, ↓reduceIte, qput, qWW, qmW, qkW, qnW, K_3 hK, K_4 hK, P_3_0 hP, K_23 hK, P_3_16 hP, P_3_0 hP, P_3_16 hP, r, hf, r1, e3, r2, Int.reduceEq]
    · simp (config := { maxSteps := 2000000 }) (disch := first | omega | (simp only [K_3 hK, K_4 hK, P_3_0 hP, K_23 hK, P_3_16 hP, P_3_0 hP, P_3_16 hP, e3, qb_in, qkW, qmW, qnW, true_and, and_true, or_self, true_or, or_true, and_self]; done) | (simp only [K_3 hK, K_4 hK, P_3_0 hP, K_23 hK, P_3_16 hP, P_3_0 hP, P_3_16 hP, e3, qb_in, qkW, qmW, qnW, true_and, and_true, or_self, true_or, or_true, and_self]; omega)) only [zD_162, b162_0, b162_7, b162_11, b162_22, b162_33, b162_42, b162_46, b162_47, b162_50, qcall_l, qcall_r, qretn_l, qJ_s, qJ_n, qV0, qEx, ↓qif0, ↓zchk_pos, ↓reduceIte, qput, qWW, qmW, qkW, qnW, K_3 hK, K_4 hK, P_3_0 hP, K_23 hK, P_3_16 hP, P_3_0 hP, P_3_16 hP, r, hf, r1, e3, r2, Int.reduceEq]
  · have q : ¬ qscf a j := fun z => q (Or.inl z)
    unfold qscf at q
    by_cases c : a = 23
    · subst c
      have b4 : m2 23 j = m1 23 j := b4 j (by omega) (by omega)
      rw [b4]
      exact a3 j (by omega) (by omega) (by omega) (by omega) (by omega)
    · have b3 : m2 a = m1 a := b3 a c (by omega)
      rw [b3, a2 a (by omega)]
theorem qFq_37x {S : zS} {m m' : Int → Int → Int} {A J : List Int} (hq : qFq S m) (f : qfr A J m m') (hA : (A.all fun x => decide (64 ≤ x ∧ x ≤ 70 ∨ 95 ≤ x ∧ x ≤ 101)) = true) (hJ : (J.all fun j => decide (j = 0 ∨ (32 ≤ j ∧ j ≤ 34) ∨ (36 ≤ j ∧ j ≤ 38) ∨ j = 40 ∨ j = 42 ∨ j = 43 ∨ j = 45 ∨ j = 46 ∨ j = 83 ∨ j = 88 ∨ j = 90 ∨ j = 92 ∨ j = 94)) = true) : qFq S m' := fun x j q => by
  rw [← hq x j q]
  by_cases c : x = 37
  · subst c
    refine f.2 j fun z => q (Or.inl ?_)
    have := of_decide_eq_true (List.all_eq_true.mp hJ j z)
    unfold qscf
    omega
  · rw [f.1 x c fun z => q (Or.inl (by
      have := of_decide_eq_true (List.all_eq_true.mp hA x z)
      unfold qscf
      omega))]
theorem r_faultF (d : Nat) (S : zS) (m : Int → Int → Int) (h : 4 ≤ d) (hK : qK S) (hP : qP (zm S)) (hT : qRT S) (hC : qRC S) (hq : qFq S m) : zD d 236 [vr 37] (qW S m) = some (.inl (some (vi (qff1 (zm S 38) (zm S 37 2)))), qW S m) :=
  r_formulaFaultOf d (qW S m) (zm S 37 2) (zm S 38) h hK (qFq_P hC hP hq) (qRT_r (qRT_q hC hT hq)) (qFq_37 hC hq 2 (by unfold qscf; omega)) (qFq_x hC hq (by decide) fun j => by unfold qscf; omega)
theorem q_formulaFault (d : Nat) (S : zS) (h : 6 ≤ d) (hK : qK S) (hP : qP (zm S)) (hT : qRT S) (hC : qRC S) : qAsk0 S (zD d 127 [vr 3] S) (zD d 237 [vr 37]) := by
  obtain ⟨e, rfl, h1⟩ := qd h
  have q1 : qFq S (qu (zm S) 37 0 0) := qFq_37x (qFq_r S) (qfr_j (A := []) (J := [0]) _ _ _ (by decide)) (by decide) (by decide)
  have r := s_faultF e S (by omega) hK hP hT
  have r2 := r_faultF e S _ (by omega) hK hP hT hC q1
  refine ⟨(qff1 (zm S 38) (zm S 37 2)), zm S, qu (zm S) 37 0 0, ?_, rfl, ?_, qu_s _ _ _ _, q1⟩
  · rw [qWS]
    simp (config := { maxSteps := 2000000 }) (disch := first | omega | (simp only [K_3 hK, K_4 hK, P_3_0 hP, P_3_0 hP, qb_in, qkW, qmW, qnW, true_and, and_true, or_self, true_or, or_true, and_self]; done) | (simp only [K_3 hK, K_4 hK, P_3_0 hP, P_3_0 hP, qb_in, qkW, qmW, qnW, true_and, and_true, or_self, true_or, or_true, and_self]; omega)) only [zD_127, b127_0, b127_7, qcall_l, qcall_r, qretn_l, qJ_s, qJ_n, qV0, qEx, ↓qif0, ↓zchk_pos, ↓reduceIte, qput, qWW, qmW, qkW, qnW, K_3 hK, K_4 hK, P_3_0 hP, P_3_0 hP, r]
  · rw [qWS]
    simp (config := { maxSteps := 2000000 }) (disch := first | omega | (simp only [K_37 hK, qb_in, qkW, qmW, qnW, true_and, and_true, or_self, true_or, or_true, and_self]; done) | (simp only [K_37 hK, qb_in, qkW, qmW, qnW, true_and, and_true, or_self, true_or, or_true, and_self]; omega)) only [zD_237, b237_0, b237_9, qcall_l, qcall_r, qretn_l, qJ_s, qJ_n, qV0, qEx, ↓qif0, ↓zchk_pos, ↓reduceIte, qput, qWW, qmW, qkW, qnW, K_37 hK, r2]
