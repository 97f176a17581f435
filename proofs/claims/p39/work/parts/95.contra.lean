/-! A contraction: what the tape must be, how it is made. -/
def qslt (t : Int → Int) (n : Int) : Prop := ∀ i, 0 ≤ i → i < n → qsm (t i)
theorem qslt_e {u t : Int → Int} {n : Int} (h : ∀ i, i < n → u i = t i) : qslt u n = qslt t n := propext ⟨fun q i i1 i2 => by rw [← h i i2]; exact q i i1 i2, fun q i i1 i2 => by rw [h i i2]; exact q i i1 i2⟩
theorem s_isSmallLetters (d : Nat) (S : zS) (n : Int) (t : Int → Int) (h : 2 ≤ d) (hK : qK S) (hP : qP (zm S)) (p1 : zm S 4 1 = n) (p5 : zm S 5 = t) (hn : 0 ≤ n ∧ n ≤ 60) :
    (qslt t n → zD d 98 [vr 4, vi 2, vi 6] S = some (.inl (some (vi (if 2 ≤ n ∧ n ≤ 6 then 1 else 0))), S)) ∧ (¬ qslt t n → zD d 98 [vr 4, vi 2, vi 6] S = some (.inl (some (vi 0)), S)) := by
  obtain ⟨e, rfl, h1⟩ := qd h
  have lp : ∀ (g : Nat) (i : Int), 0 ≤ i → i + g = n →
      ((∀ j, i ≤ j → j < n → qsm (t j)) → zF_98 e 2 [vr 4, vi 2, vi 6, vi i] [] S = some (.inl (some (vi (if 2 ≤ n ∧ n ≤ 6 then 1 else 0))), S)) ∧ (¬ (∀ j, i ≤ j → j < n → qsm (t j)) → zF_98 e 2 [vr 4, vi 2, vi 6, vi i] [] S = some (.inl (some (vi 0)), S)) := by
    intro g
    induction g with
    | zero =>
      intro i hi hin
      refine ⟨fun _ => ?_, fun z => absurd (fun j j1 j2 => by omega) z⟩
      rw [b98_2]
      by_cases c1 : n < 2
      · rw [show (if 2 ≤ n ∧ n ≤ 6 then (1 : Int) else 0) = 0 from if_neg (by omega)]
        simp (config := { maxSteps := 2000000 }) (disch := first | omega | (simp only [K_3 hK, K_4 hK, P_3_0 hP, qb_in, qkW, qmW, qnW, true_and, and_true, or_self, true_or, or_true, and_self]; done) | (simp only [K_3 hK, K_4 hK, P_3_0 hP, qb_in, qkW, qmW, qnW, true_and, and_true, or_self, true_or, or_true, and_self]; omega)) only [b98_0, b98_10, b98_19, b98_22, b98_24, b98_30, b98_38, b98_46, b98_50, b98_51, qcall_l, qcall_r, qretn_l, qJ_s, qJ_n, qV0, qEx, ↓qif0, ↓zchk_pos, ↓reduceIte, qput, qWW, qmW, qkW, qnW, K_3 hK, K_4 hK, P_3_0 hP, p1, if_neg (show ¬ i < n by omega), if_pos c1, Int.reduceLE, true_and, and_self]
      · by_cases c2 : 6 < n
        · rw [show (if 2 ≤ n ∧ n ≤ 6 then (1 : Int) else 0) = 0 from if_neg (by omega)]
          simp (config := { maxSteps := 2000000 }) (disch := first | omega | (simp only [K_3 hK, K_4 hK, P_3_0 hP, qb_in, qkW, qmW, qnW, true_and, and_true, or_self, true_or, or_true, and_self]; done) | (simp only [K_3 hK, K_4 hK, P_3_0 hP, qb_in, qkW, qmW, qnW, true_and, and_true, or_self, true_or, or_true, and_self]; omega)) only [b98_0, b98_10, b98_19, b98_22, b98_24, b98_30, b98_38, b98_46, b98_50, b98_51, qcall_l, qcall_r, qretn_l, qJ_s, qJ_n, qV0, qEx, ↓qif0, ↓zchk_pos, ↓reduceIte, qput, qWW, qmW, qkW, qnW, K_3 hK, K_4 hK, P_3_0 hP, p1, if_neg (show ¬ i < n by omega), if_neg c1, if_pos c2, Int.reduceLE, true_and, and_self]
        · rw [show (if 2 ≤ n ∧ n ≤ 6 then (1 : Int) else 0) = 1 from if_pos (by omega)]
          simp (config := { maxSteps := 2000000 }) (disch := first | omega | (simp only [K_3 hK, K_4 hK, P_3_0 hP, qb_in, qkW, qmW, qnW, true_and, and_true, or_self, true_or, or_true, and_self]; done) | (simp only [K_3 hK, K_4 hK, P_3_0 hP, qb_in, qkW, qmW, qnW, true_and, and_true, or_self, true_or, or_true, and_self]; omega)) only [b98_0, b98_10, b98_19, b98_22, b98_24, b98_30, b98_38, b98_46, b98_50, b98_51, qcall_l, qcall_r, qretn_l, qJ_s, qJ_n, qV0, qEx, ↓qif0, ↓zchk_pos, ↓reduceIte, qput, qWW, qmW, qkW, qnW, K_3 hK, K_4 hK, P_3_0 hP, p1, if_neg (show ¬ i < n by omega), if_neg c1, if_neg c2, Int.reduceLE, true_and, and_self]
    | succ g ih =>
      intro i hi hin
      have sm := s_isSmallLetter e (t i) S h1
      obtain ⟨i1, i2⟩ := ih (i + 1) (by omega) (by omega)
      by_cases q : qsm (t i)
      · rw [qb_p q] at sm
        have st : zF_98 e 2 [vr 4, vi 2, vi 6, vi i] [] S = zF_98 e 2 [vr 4, vi 2, vi 6, vi (i + 1)] [] S := by
          rw [b98_2]
          simp (config := { maxSteps := 2000000 }) (disch := first | omega | (simp only [K_3 hK, K_4 hK, P_3_0 hP, P_4_0 hP, K_5 hK, qb_in, qkW, qmW, qnW, true_and, and_true, or_self, true_or, or_true, and_self]; done) | (simp only [K_3 hK, K_4 hK, P_3_0 hP, P_4_0 hP, K_5 hK, qb_in, qkW, qmW, qnW, true_and, and_true, or_self, true_or, or_true, and_self]; omega)) only [b98_0, b98_10, b98_19, b98_22, b98_24, b98_30, b98_38, b98_46, b98_50, b98_51, qcall_l, qcall_r, qretn_l, qJ_s, qJ_n, qV0, qEx, ↓qif0, ↓zchk_pos, ↓reduceIte, qput, qWW, qmW, qkW, qnW, K_3 hK, K_4 hK, P_3_0 hP, p1, p5, P_4_0 hP, K_5 hK, if_pos (show i < n by omega), sm, q32, Int.reduceEq]
        rw [st]
        refine ⟨fun z => i1 fun j j1 j2 => z j (by omega) j2, fun z => i2 fun w => z fun j j1 j2 => ?_⟩
        by_cases w2 : j = i
        · rw [w2]; exact q
        · exact w j (by omega) j2
      · rw [qb_n q] at sm
        refine ⟨fun z => absurd (z i (Int.le_refl i) (by omega)) q, fun _ => ?_⟩
        rw [b98_2]
        simp (config := { maxSteps := 2000000 }) (disch := first | omega | (simp only [K_3 hK, K_4 hK, P_3_0 hP, P_4_0 hP, K_5 hK, qb_in, qkW, qmW, qnW, true_and, and_true, or_self, true_or, or_true, and_self]; done) | (simp only [K_3 hK, K_4 hK, P_3_0 hP, P_4_0 hP, K_5 hK, qb_in, qkW, qmW, qnW, true_and, and_true, or_self, true_or, or_true, and_self]; omega)) only [b98_0, b98_10, b98_19, b98_22, b98_24, b98_30, b98_38, b98_46, b98_50, b98_51, qcall_l, qcall_r, qretn_l, qJ_s, qJ_n, qV0, qEx, ↓qif0, ↓zchk_pos, ↓reduceIte, qput, qWW, qmW, qkW, qnW, K_3 hK, K_4 hK, P_3_0 hP, p1, p5, P_4_0 hP, K_5 hK, if_pos (show i < n by omega), sm, Int.reduceEq, Int.reduceLE, true_and, and_self]
  obtain ⟨l1, l2⟩ := lp n.toNat 0 (Int.le_refl 0) (by omega)
  refine ⟨fun z => ?_, fun z => ?_⟩
  · simp (config := { maxSteps := 2000000 }) (disch := first | omega | (simp only [qb_in, qkW, qmW, qnW, true_and, and_true, or_self, true_or, or_true, and_self]; done) | (simp only [qb_in, qkW, qmW, qnW, true_and, and_true, or_self, true_or, or_true, and_self]; omega)) only [zD_98, b98_0, b98_10, b98_19, b98_22, b98_24, b98_30, b98_38, b98_46, b98_50, b98_51, qcall_l, qcall_r, qretn_l, qJ_s, qJ_n, qV0, qEx, ↓qif0, ↓zchk_pos, ↓reduceIte, qput, qWW, qmW, qkW, qnW]
    exact l1 z
  · simp (config := { maxSteps := 2000000 }) (disch := first | omega | (simp only [qb_in, qkW, qmW, qnW, true_and, and_true, or_self, true_or, or_true, and_self]; done) | (simp only [qb_in, qkW, qmW, qnW, true_and, and_true, or_self, true_or, or_true, and_self]; omega)) only [zD_98, b98_0, b98_10, b98_19, b98_22, b98_24, b98_30, b98_38, b98_46, b98_50, b98_51, qcall_l, qcall_r, qretn_l, qJ_s, qJ_n, qV0, qEx, ↓qif0, ↓zchk_pos, ↓reduceIte, qput, qWW, qmW, qkW, qnW]
    exact l2 z
/-- a contraction is made -/
theorem s_contrInit (d : Nat) (S : zS) (x g p f s N : Int) (h : 1 ≤ d) (hx : zk S x = (23, 0)) (h0 : 0 < x ∧ x < N) (hN : (zn S : Int) = N) :
    zD d 32 [vr x, vi g, vi p, vi f, vi s] S = some (.inl none, qW (zalloc S 0 6 6) (qu (qu (qu (qu (qu (qz (zm S) N) x 0 N) x 2 g) x 3 p) x 4 f) x 5 s)) := by
  obtain ⟨e, rfl, -⟩ := qd h
  subst hN
  simp (config := { maxSteps := 2000000 }) (disch := first | omega | (simp only [qal_n, hx, qal_o, qb_in, qkW, qmW, qnW, true_and, and_true, or_self, true_or, or_true, and_self]; done) | (simp only [qal_n, hx, qal_o, qb_in, qkW, qmW, qnW, true_and, and_true, or_self, true_or, or_true, and_self]; omega)) only [zD_32, b32_0, b32_12, b32_18, qcall_l, qcall_r, qretn_l, qJ_s, qJ_n, qV0, qEx, ↓qif0, ↓zchk_pos, ↓reduceIte, qput, qWW, qmW, qkW, qnW, qalW, qal_n, qal_o, qal_m, hx, Int.reduceToNat]
/-- a letter is added -/
theorem s_contrAppend (d : Nat) (S : zS) (x y k v : Int) (h : 1 ≤ d) (hx : zk S x = (23, 0)) (hy : zk S y = (0, 6)) (hxy : x ≠ y) (p0 : zm S x 0 = y) (p1 : zm S x 1 = k) (hk : 0 ≤ k ∧ k < 6) : zD d 33 [vr x, vi v] S = some (.inl none, qW S (qu (qu (zm S) y k v) x 1 (k + 1))) := by
  obtain ⟨e, rfl, -⟩ := qd h
  have e1 : qu (zm S) y k v x = zm S x := qu_o _ _ _ _ _ hxy
  simp (config := { maxSteps := 2000000 }) (disch := first | omega | (simp only [hx, hy, p0, p1, e1, qb_in, qkW, qmW, qnW, true_and, and_true, or_self, true_or, or_true, and_self]; done) | (simp only [hx, hy, p0, p1, e1, qb_in, qkW, qmW, qnW, true_and, and_true, or_self, true_or, or_true, and_self]; omega)) only [zD_33, b33_0, b33_9, b33_25, b33_29, qcall_l, qcall_r, qretn_l, qJ_s, qJ_n, qV0, qEx, ↓qif0, ↓zchk_pos, ↓reduceIte, qput, qWW, qmW, qkW, qnW, hx, hy, p0, p1, e1, if_pos hk.2, q32]
/-- a code takes it -/
theorem s_codeAppend (d : Nat) (S : zS) (a y x k : Int) (h : 1 ≤ d) (ha : zk S a = (22, 0)) (hy : zk S y = (12, 24)) (hx : zk S x = (23, 0)) (hay : a ≠ y) (p0 : zm S a 0 = y) (p1 : zm S a 1 = k) (hk : 0 ≤ k ∧ k < 24) : zD d 17 [vr a, vr x] S = some (.inl (some (vi k)), qW S (qu (qu (zm S) y k x) a 1 (k + 1))) := by
  obtain ⟨e, rfl, -⟩ := qd h
  have e1 : qu (zm S) y k x a = zm S a := qu_o _ _ _ _ _ hay
  have e2 : qu (qu (zm S) y k x) a 1 (k + 1) a 1 = k + 1 := qu_s _ _ _ _
  simp (config := { maxSteps := 2000000 }) (disch := first | omega | (simp only [ha, hy, hx, p0, p1, e1, qb_in, qkW, qmW, qnW, true_and, and_true, or_self, true_or, or_true, and_self]; done) | (simp only [ha, hy, hx, p0, p1, e1, qb_in, qkW, qmW, qnW, true_and, and_true, or_self, true_or, or_true, and_self]; omega)) only [zD_17, b17_0, b17_9, b17_25, b17_29, qcall_l, qcall_r, qretn_l, qJ_s, qJ_n, qV0, qEx, ↓qif0, ↓zchk_pos, ↓reduceIte, qput, qWW, qmW, qkW, qnW, ha, hy, hx, p0, p1, e1, e2, if_pos hk.2, q32, show k + 1 - 1 = k by omega]
