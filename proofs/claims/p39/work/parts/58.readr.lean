/-! The reference reads its row as letters. -/
def qRr (m : Int → Int → Int) (r : Int → Int) (all : Int) : Prop := ∀ j, 0 ≤ j → j < all → m 68 j = r j
theorem r_cellsOf' (d : Nat) (S : zS) (c : Int) (h : 1 ≤ d) : zD d 214 [vi c] S = some (.inl (some (vi (qcn c))), S) := r_cellsOf d S c h
theorem r_canRead (d : Nat) (S : zS) (c N k g fr all : Int) (T : Int → Int → Int) (r : Int → Int) (h : 2 ≤ d) (hK : qK S) (hP : qP (zm S)) (hc : qRc (zm S) c N T) (hT : qTok T N) (hk : 0 ≤ k ∧ k < N) (hr : qRr (zm S) r all) (hf : 0 ≤ fr ∧ fr < all ∧ all ≤ 32) :
    zD d 217 [vr 37, vi (24 * c + k), vi g, vi fr, vi all] S = some (.inl (some (vi (qc (qCR T k g r all fr)))), S) := by
  obtain ⟨e, rfl, h1⟩ := qd h
  obtain ⟨c1, c2, c3, c4⟩ := hc
  obtain ⟨t0, t1, t2, t3, t4, t5⟩ := c4 k hk.1 hk.2
  have ht := hT k hk.1 hk.2
  have hcn := qcn_r (T 4 k)
  have cc := r_cellsOf' e S (T 4 k) (by omega)
  have ft := r_fits e S (T 2 k) fr (qcn (T 4 k)) all (by omega) ht.2.2.1 (by omega)
  by_cases q1 : g < T 1 k
  · rw [qc_n fun z => by have := z.1; omega]
    simp (config := { maxSteps := 2000000 }) (disch := first | omega | (simp only [K_37 hK, K_43 hK, P_37_9 hP, K_44 hK, P_37_10 hP, P_37_9 hP, P_37_10 hP, qb_in, qkW, qmW, qnW, true_and, and_true, or_self, true_or, or_true, and_self]; done) | (simp only [K_37 hK, K_43 hK, P_37_9 hP, K_44 hK, P_37_10 hP, P_37_9 hP, P_37_10 hP, qb_in, qkW, qmW, qnW, true_and, and_true, or_self, true_or, or_true, and_self]; omega)) only [zD_217, b217_0, b217_9, b217_21, b217_30, b217_44, b217_47, b217_51, b217_52, b217_59, b217_74, b217_80, b217_94, b217_97, b217_101, b217_102, qcall_l, qcall_r, qretn_l, qJ_s, qJ_n, qV0, qEx, ↓qif0, ↓zchk_pos, ↓reduceIte, qput, qWW, qmW, qkW, qnW, K_37 hK, K_43 hK, P_37_9 hP, K_44 hK, P_37_10 hP, P_37_9 hP, P_37_10 hP, t1, t4, cc, if_pos q1, Int.reduceLE, true_and, and_self]
  · by_cases q2 : all < fr + qcn (T 4 k)
    · rw [qc_n fun z => by have := z.2.1; omega]
      simp (config := { maxSteps := 2000000 }) (disch := first | omega | (simp only [K_37 hK, K_43 hK, P_37_9 hP, K_44 hK, P_37_10 hP, P_37_9 hP, P_37_10 hP, qb_in, qkW, qmW, qnW, true_and, and_true, or_self, true_or, or_true, and_self]; done) | (simp only [K_37 hK, K_43 hK, P_37_9 hP, K_44 hK, P_37_10 hP, P_37_9 hP, P_37_10 hP, qb_in, qkW, qmW, qnW, true_and, and_true, or_self, true_or, or_true, and_self]; omega)) only [zD_217, b217_0, b217_9, b217_21, b217_30, b217_44, b217_47, b217_51, b217_52, b217_59, b217_74, b217_80, b217_94, b217_97, b217_101, b217_102, qcall_l, qcall_r, qretn_l, qJ_s, qJ_n, qV0, qEx, ↓qif0, ↓zchk_pos, ↓reduceIte, qput, qWW, qmW, qkW, qnW, K_37 hK, K_43 hK, P_37_9 hP, K_44 hK, P_37_10 hP, P_37_9 hP, P_37_10 hP, t1, t4, cc, if_neg q1, if_pos q2, q32, Int.reduceLE, true_and, and_self]
    · by_cases q3 : qfit (T 2 k) fr (qcn (T 4 k)) all
      · rw [qb_p q3] at ft
        have g1 := hr fr hf.1 hf.2.1
        by_cases q4 : r fr = T 3 k
        · by_cases q5 : T 4 k = 0
          · have e1 : qcn (T 4 k) = 1 := by unfold qcn; rw [if_pos q5]
            rw [qc_p (show qCR T k g r all fr from ⟨by omega, by omega, q4, fun z => absurd q5 z, q3⟩)]
            rw [e1] at cc ft q2
            simp (config := { maxSteps := 2000000 }) (disch := first | omega | (simp only [K_37 hK, K_43 hK, P_37_9 hP, K_42 hK, P_37_8 hP, K_44 hK, P_37_10 hP, K_45 hK, P_37_11 hP, K_68 hK, P_37_47 hP, P_37_8 hP, P_37_9 hP, P_37_10 hP, P_37_11 hP, P_37_47 hP, qb_in, qkW, qmW, qnW, true_and, and_true, or_self, true_or, or_true, and_self]; done) | (simp only [K_37 hK, K_43 hK, P_37_9 hP, K_42 hK, P_37_8 hP, K_44 hK, P_37_10 hP, K_45 hK, P_37_11 hP, K_68 hK, P_37_47 hP, P_37_8 hP, P_37_9 hP, P_37_10 hP, P_37_11 hP, P_37_47 hP, qb_in, qkW, qmW, qnW, true_and, and_true, or_self, true_or, or_true, and_self]; omega)) only [zD_217, b217_0, b217_9, b217_21, b217_30, b217_44, b217_47, b217_51, b217_52, b217_59, b217_74, b217_80, b217_94, b217_97, b217_101, b217_102, qcall_l, qcall_r, qretn_l, qJ_s, qJ_n, qV0, qEx, ↓qif0, ↓zchk_pos, ↓reduceIte, qput, qWW, qmW, qkW, qnW, K_37 hK, K_43 hK, P_37_9 hP, K_42 hK, P_37_8 hP, K_44 hK, P_37_10 hP, K_45 hK, P_37_11 hP, K_68 hK, P_37_47 hP, P_37_8 hP, P_37_9 hP, P_37_10 hP, P_37_11 hP, P_37_47 hP, t1, t2, t3, t4, cc, g1, ft, if_neg q1, if_neg q2, if_pos q4, Int.reduceEq, q32, Int.reduceLE, true_and, and_self]
          · have e1 : qcn (T 4 k) = 2 := by unfold qcn; rw [if_neg q5]
            rw [e1] at cc ft q2
            have g2 := hr (fr + 1) (by omega) (by omega)
            by_cases q6 : r (fr + 1) = T 4 k
            · rw [qc_p (show qCR T k g r all fr from ⟨by omega, by omega, q4, fun _ => q6, q3⟩)]
              simp (config := { maxSteps := 2000000 }) (disch := first | omega | (simp only [K_37 hK, K_43 hK, P_37_9 hP, K_42 hK, P_37_8 hP, K_44 hK, P_37_10 hP, K_45 hK, P_37_11 hP, K_68 hK, P_37_47 hP, P_37_8 hP, P_37_9 hP, P_37_10 hP, P_37_11 hP, P_37_47 hP, q32, qb_in, qkW, qmW, qnW, true_and, and_true, or_self, true_or, or_true, and_self]; done) | (simp only [K_37 hK, K_43 hK, P_37_9 hP, K_42 hK, P_37_8 hP, K_44 hK, P_37_10 hP, K_45 hK, P_37_11 hP, K_68 hK, P_37_47 hP, P_37_8 hP, P_37_9 hP, P_37_10 hP, P_37_11 hP, P_37_47 hP, q32, qb_in, qkW, qmW, qnW, true_and, and_true, or_self, true_or, or_true, and_self]; omega)) only [zD_217, b217_0, b217_9, b217_21, b217_30, b217_44, b217_47, b217_51, b217_52, b217_59, b217_74, b217_80, b217_94, b217_97, b217_101, b217_102, qcall_l, qcall_r, qretn_l, qJ_s, qJ_n, qV0, qEx, ↓qif0, ↓zchk_pos, ↓reduceIte, qput, qWW, qmW, qkW, qnW, K_37 hK, K_43 hK, P_37_9 hP, K_42 hK, P_37_8 hP, K_44 hK, P_37_10 hP, K_45 hK, P_37_11 hP, K_68 hK, P_37_47 hP, P_37_8 hP, P_37_9 hP, P_37_10 hP, P_37_11 hP, P_37_47 hP, t1, t2, t3, t4, cc, g1, g2, ft, if_neg q1, if_neg q2, if_pos q4, if_pos q6, Int.reduceEq, q32, Int.reduceLE, true_and, and_self]
            · rw [qc_n fun z => q6 (z.2.2.2.1 q5)]
              simp (config := { maxSteps := 2000000 }) (disch := first | omega | (simp only [K_37 hK, K_43 hK, P_37_9 hP, K_42 hK, P_37_8 hP, K_44 hK, P_37_10 hP, K_45 hK, P_37_11 hP, K_68 hK, P_37_47 hP, P_37_8 hP, P_37_9 hP, P_37_10 hP, P_37_11 hP, P_37_47 hP, q32, qb_in, qkW, qmW, qnW, true_and, and_true, or_self, true_or, or_true, and_self]; done) | (simp only [K_37 hK, K_43 hK, P_37_9 hP, K_42 hK, P_37_8 hP, K_44 hK, P_37_10 hP, K_45 hK, P_37_11 hP, K_68 hK, P_37_47 hP, P_37_8 hP, P_37_9 hP, P_37_10 hP, P_37_11 hP, P_37_47 hP, q32, qb_in, qkW, qmW, qnW, true_and, and_true, or_self, true_or, or_true, and_self]; omega)) only [zD_217, b217_0, b217_9, b217_21, b217_30, b217_44, b217_47, b217_51, b217_52, b217_59, b217_74, b217_80, b217_94, b217_97, b217_101, b217_102, qcall_l, qcall_r, qretn_l, qJ_s, qJ_n, qV0, qEx, ↓qif0, ↓zchk_pos, ↓reduceIte, qput, qWW, qmW, qkW, qnW, K_37 hK, K_43 hK, P_37_9 hP, K_42 hK, P_37_8 hP, K_44 hK, P_37_10 hP, K_45 hK, P_37_11 hP, K_68 hK, P_37_47 hP, P_37_8 hP, P_37_9 hP, P_37_10 hP, P_37_11 hP, P_37_47 hP, t1, t2, t3, t4, cc, g1, g2, ft, if_neg q1, if_neg q2, if_pos q4, if_neg q6, Int.reduceEq, q32, Int.reduceLE, true_and, and_self]
        · rw [qc_n fun z => q4 z.2.2.1]
          simp (config := { maxSteps := 2000000 }) (disch := first | omega | (simp only [K_37 hK, K_43 hK, P_37_9 hP, K_42 hK, P_37_8 hP, K_44 hK, P_37_10 hP, K_45 hK, P_37_11 hP, K_68 hK, P_37_47 hP, P_37_8 hP, P_37_9 hP, P_37_10 hP, P_37_11 hP, P_37_47 hP, qb_in, qkW, qmW, qnW, true_and, and_true, or_self, true_or, or_true, and_self]; done) | (simp only [K_37 hK, K_43 hK, P_37_9 hP, K_42 hK, P_37_8 hP, K_44 hK, P_37_10 hP, K_45 hK, P_37_11 hP, K_68 hK, P_37_47 hP, P_37_8 hP, P_37_9 hP, P_37_10 hP, P_37_11 hP, P_37_47 hP, qb_in, qkW, qmW, qnW, true_and, and_true, or_self, true_or, or_true, and_self]; omega)) only [zD_217, b217_0, b217_9, b217_21, b217_30, b217_44, b217_47, b217_51, b217_52, b217_59, b217_74, b217_80, b217_94, b217_97, b217_101, b217_102, qcall_l, qcall_r, qretn_l, qJ_s, qJ_n, qV0, qEx, ↓qif0, ↓zchk_pos, ↓reduceIte, qput, qWW, qmW, qkW, qnW, K_37 hK, K_43 hK, P_37_9 hP, K_42 hK, P_37_8 hP, K_44 hK, P_37_10 hP, K_45 hK, P_37_11 hP, K_68 hK, P_37_47 hP, P_37_8 hP, P_37_9 hP, P_37_10 hP, P_37_11 hP, P_37_47 hP, t1, t2, t3, t4, cc, g1, ft, if_neg q1, if_neg q2, if_neg q4, Int.reduceEq, q32, Int.reduceLE, true_and, and_self]
      · rw [qb_n q3] at ft
        rw [qc_n fun z => q3 z.2.2.2.2]
        simp (config := { maxSteps := 2000000 }) (disch := first | omega | (simp only [K_37 hK, K_43 hK, P_37_9 hP, K_44 hK, P_37_10 hP, K_45 hK, P_37_11 hP, P_37_9 hP, P_37_10 hP, P_37_11 hP, qb_in, qkW, qmW, qnW, true_and, and_true, or_self, true_or, or_true, and_self]; done) | (simp only [K_37 hK, K_43 hK, P_37_9 hP, K_44 hK, P_37_10 hP, K_45 hK, P_37_11 hP, P_37_9 hP, P_37_10 hP, P_37_11 hP, qb_in, qkW, qmW, qnW, true_and, and_true, or_self, true_or, or_true, and_self]; omega)) only [zD_217, b217_0, b217_9, b217_21, b217_30, b217_44, b217_47, b217_51, b217_52, b217_59, b217_74, b217_80, b217_94, b217_97, b217_101, b217_102, qcall_l, qcall_r, qretn_l, qJ_s, qJ_n, qV0, qEx, ↓qif0, ↓zchk_pos, ↓reduceIte, qput, qWW, qmW, qkW, qnW, K_37 hK, K_43 hK, P_37_9 hP, K_44 hK, P_37_10 hP, K_45 hK, P_37_11 hP, P_37_9 hP, P_37_10 hP, P_37_11 hP, t1, t2, t4, cc, ft, if_neg q1, if_neg q2, Int.reduceEq, q32, Int.reduceLE, true_and, and_self]
theorem r_bestToRead (d : Nat) (S : zS) (c N g fr all : Int) (T : Int → Int → Int) (r : Int → Int) (h : 3 ≤ d) (hK : qK S) (hP : qP (zm S)) (hc : qRc (zm S) c N T) (hT : qTok T N) (hr : qRr (zm S) r all) (hf : 0 ≤ fr ∧ fr < all ∧ all ≤ 32) :
    zD d 219 [vr 37, vi c, vi g, vi fr, vi all] S = some (.inl (some (vi (qzz c (qbr T N g r all fr)))), S) := by
  obtain ⟨e, rfl, h1⟩ := qd h
  have hc0 := hc
  obtain ⟨c1, c2, c3, c4⟩ := hc
  have lp : ∀ (f : Nat) (k best most : Int), 0 ≤ k → k + f = N → (best = -1 ∧ most = 0 ∨ 0 ≤ best ∧ best < N ∧ most = qcn (T 4 best)) → zF_219 e 9 [vr 37, vi c, vi g, vi fr, vi all, vi (qzz c best), vi (24 * c + k)] [] S = some (.inl (some (vi (qzz c (qbs (fun k => qc (qCR T k g r all fr)) (fun k => qcn (T 4 k)) f k best most)))), S) := by
    intro f
    induction f with
    | zero =>
      intro k best most h2 h3 h4
      rw [b219_9]
      simp (config := { maxSteps := 2000000 }) (disch := first | omega | (simp only [K_37 hK, K_39 hK, P_37_5 hP, P_37_5 hP, qb_in, qkW, qmW, qnW, true_and, and_true, or_self, true_or, or_true, and_self]; done) | (simp only [K_37 hK, K_39 hK, P_37_5 hP, P_37_5 hP, qb_in, qkW, qmW, qnW, true_and, and_true, or_self, true_or, or_true, and_self]; omega)) only [b219_0, b219_25, b219_35, b219_38, b219_44, b219_54, b219_64, b219_67, b219_72, b219_74, b219_82, qcall_l, qcall_r, qretn_l, qJ_s, qJ_n, qV0, qEx, ↓qif0, ↓zchk_pos, ↓reduceIte, qput, qWW, qmW, qkW, qnW, K_37 hK, K_39 hK, P_37_5 hP, P_37_5 hP, c2, if_neg (show ¬ 24 * c + k < 24 * c + N by omega), q32, qbs]
    | succ f ih =>
      intro k best most h2 h3 h4
      have cw := r_canRead e S c N k g fr all T r (by omega) hK hP hc0 hT ⟨h2, by omega⟩ hr hf
      have tk := (c4 k h2 (by omega)).2.2.2.2.1
      have ck := r_cellsOf' e S (T 4 k) (by omega)
      have hcn := qcn_r (T 4 k)
      rw [b219_9]
      simp only [qbs]
      by_cases q1 : qc (qCR T k g r all fr) = 0
      · rw [if_neg (show ¬ (most < qcn (T 4 k) ∧ qc (qCR T k g r all fr) ≠ 0) from fun z => z.2 q1)]
        rw [q1] at cw
        simp (config := { maxSteps := 2000000 }) (disch := first | omega | (simp only [K_37 hK, K_39 hK, P_37_5 hP, P_37_5 hP, qb_in, qkW, qmW, qnW, true_and, and_true, or_self, true_or, or_true, and_self]; done) | (simp only [K_37 hK, K_39 hK, P_37_5 hP, P_37_5 hP, qb_in, qkW, qmW, qnW, true_and, and_true, or_self, true_or, or_true, and_self]; omega)) only [b219_0, b219_25, b219_35, b219_38, b219_44, b219_54, b219_64, b219_67, b219_72, b219_74, b219_82, qcall_l, qcall_r, qretn_l, qJ_s, qJ_n, qV0, qEx, ↓qif0, ↓zchk_pos, ↓reduceIte, qput, qWW, qmW, qkW, qnW, K_37 hK, K_39 hK, P_37_5 hP, P_37_5 hP, c2, if_pos (show 24 * c + k < 24 * c + N by omega), q32, cw]
        rw [show 24 * c + k + 1 = 24 * c + (k + 1) by omega]
        exact ih (k + 1) best most (by omega) (by omega) h4
      · by_cases q2 : best = -1
        · have e1 : qzz c best = -1 := if_pos q2
          rw [if_pos (show most < qcn (T 4 k) ∧ qc (qCR T k g r all fr) ≠ 0 from ⟨by omega, q1⟩), e1]
          simp (config := { maxSteps := 2000000 }) (disch := first | omega | (simp only [K_37 hK, K_39 hK, P_37_5 hP, P_37_5 hP, qb_in, qkW, qmW, qnW, true_and, and_true, or_self, true_or, or_true, and_self]; done) | (simp only [K_37 hK, K_39 hK, P_37_5 hP, P_37_5 hP, qb_in, qkW, qmW, qnW, true_and, and_true, or_self, true_or, or_true, and_self]; omega)) only [b219_0, b219_25, b219_35, b219_38, b219_44, b219_54, b219_64, b219_67, b219_72, b219_74, b219_82, qcall_l, qcall_r, qretn_l, qJ_s, qJ_n, qV0, qEx, ↓qif0, ↓zchk_pos, ↓reduceIte, qput, qWW, qmW, qkW, qnW, K_37 hK, K_39 hK, P_37_5 hP, P_37_5 hP, c2, if_pos (show 24 * c + k < 24 * c + N by omega), q32, cw, if_neg q1]
          rw [show 24 * c + k + 1 = 24 * c + (k + 1) by omega]
          have := ih (k + 1) k (qcn (T 4 k)) (by omega) (by omega) (Or.inr ⟨h2, by omega, rfl⟩)
          rw [show qzz c k = 24 * c + k from if_neg (by omega)] at this
          exact this
        · have e1 : qzz c best = 24 * c + best := if_neg q2
          have hb : 0 ≤ best ∧ best < N ∧ most = qcn (T 4 best) := h4.resolve_left fun z => q2 z.1
          have tb := (c4 best hb.1 hb.2.1).2.2.2.2.1
          have cb := r_cellsOf' e S (T 4 best) (by omega)
          by_cases q3 : qcn (T 4 best) < qcn (T 4 k)
          · rw [if_pos (show most < qcn (T 4 k) ∧ qc (qCR T k g r all fr) ≠ 0 from ⟨by omega, q1⟩), e1]
            simp (config := { maxSteps := 2000000 }) (disch := first | omega | (simp only [K_37 hK, K_39 hK, P_37_5 hP, K_43 hK, P_37_9 hP, P_37_5 hP, P_37_9 hP, qb_in, qkW, qmW, qnW, true_and, and_true, or_self, true_or, or_true, and_self]; done) | (simp only [K_37 hK, K_39 hK, P_37_5 hP, K_43 hK, P_37_9 hP, P_37_5 hP, P_37_9 hP, qb_in, qkW, qmW, qnW, true_and, and_true, or_self, true_or, or_true, and_self]; omega)) only [b219_0, b219_25, b219_35, b219_38, b219_44, b219_54, b219_64, b219_67, b219_72, b219_74, b219_82, qcall_l, qcall_r, qretn_l, qJ_s, qJ_n, qV0, qEx, ↓qif0, ↓zchk_pos, ↓reduceIte, qput, qWW, qmW, qkW, qnW, K_37 hK, K_39 hK, P_37_5 hP, K_43 hK, P_37_9 hP, P_37_5 hP, P_37_9 hP, c2, tk, tb, ck, cb, if_pos (show 24 * c + k < 24 * c + N by omega), q32, cw, if_neg q1, if_neg (show ¬ 24 * c + best = -1 by omega), if_pos q3]
            rw [show 24 * c + k + 1 = 24 * c + (k + 1) by omega]
            have := ih (k + 1) k (qcn (T 4 k)) (by omega) (by omega) (Or.inr ⟨h2, by omega, rfl⟩)
            rw [show qzz c k = 24 * c + k from if_neg (by omega)] at this
            exact this
          · rw [if_neg (show ¬ (most < qcn (T 4 k) ∧ qc (qCR T k g r all fr) ≠ 0) from fun z => q3 (by have := z.1; omega)), e1]
            simp (config := { maxSteps := 2000000 }) (disch := first | omega | (simp only [K_37 hK, K_39 hK, P_37_5 hP, K_43 hK, P_37_9 hP, P_37_5 hP, P_37_9 hP, qb_in, qkW, qmW, qnW, true_and, and_true, or_self, true_or, or_true, and_self]; done) | (simp only [K_37 hK, K_39 hK, P_37_5 hP, K_43 hK, P_37_9 hP, P_37_5 hP, P_37_9 hP, qb_in, qkW, qmW, qnW, true_and, and_true, or_self, true_or, or_true, and_self]; omega)) only [b219_0, b219_25, b219_35, b219_38, b219_44, b219_54, b219_64, b219_67, b219_72, b219_74, b219_82, qcall_l, qcall_r, qretn_l, qJ_s, qJ_n, qV0, qEx, ↓qif0, ↓zchk_pos, ↓reduceIte, qput, qWW, qmW, qkW, qnW, K_37 hK, K_39 hK, P_37_5 hP, K_43 hK, P_37_9 hP, P_37_5 hP, P_37_9 hP, c2, tk, tb, ck, cb, if_pos (show 24 * c + k < 24 * c + N by omega), q32, cw, if_neg q1, if_neg (show ¬ 24 * c + best = -1 by omega), if_neg q3]
            rw [show 24 * c + k + 1 = 24 * c + (k + 1) by omega]
            have := ih (k + 1) best most (by omega) (by omega) h4
            rw [e1] at this
            exact this
  have := lp N.toNat 0 (-1) 0 (by omega) (by omega) (Or.inl ⟨rfl, rfl⟩)
  rw [show qzz c (-1) = -1 from rfl, show 24 * c + 0 = 24 * c by omega] at this
  simp (config := { maxSteps := 2000000 }) (disch := first | omega | (simp only [qb_in, qkW, qmW, qnW, true_and, and_true, or_self, true_or, or_true, and_self]; done) | (simp only [qb_in, qkW, qmW, qnW, true_and, and_true, or_self, true_or, or_true, and_self]; omega)) only [zD_219, b219_0, b219_25, b219_35, b219_38, b219_44, b219_54, b219_64, b219_67, b219_72, b219_74, b219_82, qcall_l, qcall_r, qretn_l, qJ_s, qJ_n, qV0, qEx, ↓qif0, ↓zchk_pos, ↓reduceIte, qput, qWW, qmW, qkW, qnW, q32]
  exact this
/-- letters with the sign of a -/
def qL9 (L : List Int) : List Int := L.map fun x => x + 97
theorem qL9_a (L K : List Int) : qL9 (L ++ K) = qL9 L ++ qL9 K := List.map_append
theorem r_readsRow (d : Nat) (S : zS) (c N g all : Int) (T : Int → Int → Int) (r : Int → Int) (h : 5 ≤ d) (hK : qK S) (hP : qP (zm S)) (hc : qRc (zm S) c N T) (hT : qTok T N) (hr : qRr (zm S) r all) (hl : 0 ≤ all ∧ all ≤ 16) :
    ∃ m' v, zD d 220 [vr 37, vi all, vi c, vi g] S = some (.inl (some (vi v)), qW S m') ∧ qfr [69] [] (zm S) m' ∧ ((qrd T r (qbr T N g r all) all all.toNat 0 [] = none ∧ v = -1) ∨ ∃ K, qrd T r (qbr T N g r all) all all.toNat 0 [] = some K ∧ v = K.length ∧ qA m' 69 (qL9 K)) := by
  obtain ⟨e, rfl, h1⟩ := qd h
  have hN := hc.2.2.1
  have hcr := hc.1
  have cl : ∀ (k : Int) (acc : List Int) (S1 : zS) (y6 : Int), 0 ≤ k → k < N → acc.length ≤ 100 → (∀ (f j : Nat) (m : Int → Int → Int) (at_ : Int), j + f = (T 0 k).toNat → qfr [69] [] (zm S) m → qA m 69 (qL9 (acc ++ qle T k j)) →
      ∃ m', zF_220 e 38 [vr 37, vi all, vi c, vi g, vi acc.length, vi at_, vi (24 * c + k), vi (j : Int)] [] (qW S m) = zF_220 e 79 [vr 37, vi all, vi c, vi g, vi acc.length, vi at_, vi (24 * c + k), vi (T 0 k)] [] (qW S m') ∧ qfr [69] [] (zm S) m' ∧ qA m' 69 (qL9 (acc ++ qlk T k))) := by
    intro k acc S1 y6 k1 k2 ha f
    have ht := hT k k1 k2
    induction f with
    | zero =>
      intro j m at_ h2 hf hA
      have hP' : qP m := qP_fr hP hf (by decide)
      have hc' : qRc m c N T := qRc_f hc fun x h5 h6 => hf.1 x (by omega) (by simp only [List.mem_cons, List.not_mem_nil, or_false]; omega)
      have t0 := (hc'.2.2.2 k k1 k2).1
      refine ⟨m, ?_, hf, ?_⟩
      · rw [b220_38]
        simp (config := { maxSteps := 2000000 }) (disch := first | omega | (simp only [K_37 hK, K_41 hK, P_37_7 hP, P_37_7 hP', qb_in, qkW, qmW, qnW, true_and, and_true, or_self, true_or, or_true, and_self]; done) | (simp only [K_37 hK, K_41 hK, P_37_7 hP, P_37_7 hP', qb_in, qkW, qmW, qnW, true_and, and_true, or_self, true_or, or_true, and_self]; omega)) only [b220_0, b220_12, b220_18, b220_27, b220_35, b220_50, b220_68, b220_97, b220_103, b220_109, b220_119, b220_122, b220_138, b220_148, b220_151, b220_154, qcall_l, qcall_r, qretn_l, qJ_s, qJ_n, qV0, qEx, ↓qif0, ↓zchk_pos, ↓reduceIte, qput, qWW, qmW, qkW, qnW, K_37 hK, K_41 hK, P_37_7 hP, P_37_7 hP', t0, if_neg (show ¬ (j : Int) < T 0 k by omega)]
        rw [show (j : Int) = T 0 k by omega]
      · unfold qlk
        rw [← h2]
        exact hA
    | succ f ih =>
      intro j m at_ h2 hf hA
      have hP' : qP m := qP_fr hP hf (by decide)
      have hc' : qRc m c N T := qRc_f hc fun x h5 h6 => hf.1 x (by omega) (by simp only [List.mem_cons, List.not_mem_nil, or_false]; omega)
      obtain ⟨t0, -, -, -, -, t5⟩ := hc'.2.2.2 k k1 k2
      have g1 := t5 j (by omega) (by omega)
      have g2 := ht.2.2.2.2.2 j (by omega) (by omega)
      have e1 : (T (5 + (j : Int)) k + 97) % 65536 = T (5 + (j : Int)) k + 97 := by omega
      have hA' : qA (qu m 69 (acc.length + j) (T (5 + (j : Int)) k + 97)) 69 (qL9 (acc ++ qle T k (j + 1))) := by
        rw [qle, ← List.append_assoc, qL9_a]
        have := qA_push hA (T (5 + (j : Int)) k + 97)
        rw [show ((qL9 (acc ++ qle T k j)).length : Int) = acc.length + j by rw [qL9, List.length_map, List.length_append, qle_l]; omega] at this
        exact this
      obtain ⟨m', r1, f1, p1⟩ := ih (j + 1) _ at_ (by omega) (qfr_t' hf (qfr_a (A := [69]) (J := []) m 69 _ _ (by decide) (by simp)) (by simp) (by simp)) hA'
      refine ⟨m', ?_, f1, p1⟩
      rw [← r1, b220_38]
      simp (config := { maxSteps := 2000000 }) (disch := first | omega | (simp only [K_37 hK, K_41 hK, P_37_7 hP, K_40 hK, P_37_6 hP, K_69 hK, P_37_48 hP, P_37_6 hP', P_37_7 hP', P_37_48 hP', qb_in, qkW, qmW, qnW, true_and, and_true, or_self, true_or, or_true, and_self]; done) | (simp only [K_37 hK, K_41 hK, P_37_7 hP, K_40 hK, P_37_6 hP, K_69 hK, P_37_48 hP, P_37_6 hP', P_37_7 hP', P_37_48 hP', qb_in, qkW, qmW, qnW, true_and, and_true, or_self, true_or, or_true, and_self]; omega)) only [b220_0, b220_12, b220_18, b220_27, b220_35, b220_50, b220_68, b220_97, b220_103, b220_109, b220_119, b220_122, b220_138, b220_148, b220_151, b220_154, qcall_l, qcall_r, qretn_l, qJ_s, qJ_n, qV0, qEx, ↓qif0, ↓zchk_pos, ↓reduceIte, qput, qWW, qmW, qkW, qnW, K_37 hK, K_41 hK, P_37_7 hP, K_40 hK, P_37_6 hP, K_69 hK, P_37_48 hP, P_37_6 hP', P_37_7 hP', P_37_48 hP', t0, g1, e1, if_pos (show (j : Int) < T 0 k by omega), q32]
      rfl
  have lp : ∀ (f : Nat) (at_ : Int) (m : Int → Int → Int) (acc : List Int) (y6 y7 : zV), 0 ≤ at_ → at_ ≤ all → all ≤ at_ + f → qfr [69] [] (zm S) m → qA m 69 (qL9 acc) → (acc.length : Int) ≤ 6 * at_ →
      ∃ m' v, zF_220 e 6 [vr 37, vi all, vi c, vi g, vi acc.length, vi at_, y6, y7] [] (qW S m) = some (.inl (some (vi v)), qW S m') ∧ qfr [69] [] (zm S) m' ∧ ((qrd T r (qbr T N g r all) all f at_ acc = none ∧ v = -1) ∨ ∃ K, qrd T r (qbr T N g r all) all f at_ acc = some K ∧ v = K.length ∧ qA m' 69 (qL9 K)) := by
    intro f
    induction f with
    | zero =>
      intro at_ m acc y6 y7 h2 h3 h4 hf hA hac
      rw [b220_6]
      refine ⟨m, acc.length, ?_, hf, Or.inr ⟨acc, rfl, rfl, hA⟩⟩
      simp (config := { maxSteps := 2000000 }) (disch := first | omega | (simp only [qb_in, qkW, qmW, qnW, true_and, and_true, or_self, true_or, or_true, and_self]; done) | (simp only [qb_in, qkW, qmW, qnW, true_and, and_true, or_self, true_or, or_true, and_self]; omega)) only [b220_0, b220_12, b220_18, b220_27, b220_35, b220_50, b220_68, b220_79, b220_97, b220_103, b220_109, b220_119, b220_122, b220_138, b220_148, b220_151, b220_154, qcall_l, qcall_r, qretn_l, qJ_s, qJ_n, qV0, qEx, ↓qif0, ↓zchk_pos, ↓reduceIte, qput, qWW, qmW, qkW, qnW, if_neg (show ¬ at_ < all by omega)]
    | succ f ih =>
      intro at_ m acc y6 y7 h2 h3 h4 hf hA hac
      rw [b220_6]
      simp only [qrd]
      by_cases c0 : all ≤ at_
      · simp only [if_pos c0]
        refine ⟨m, acc.length, ?_, hf, Or.inr ⟨acc, rfl, rfl, hA⟩⟩
        simp (config := { maxSteps := 2000000 }) (disch := first | omega | (simp only [qb_in, qkW, qmW, qnW, true_and, and_true, or_self, true_or, or_true, and_self]; done) | (simp only [qb_in, qkW, qmW, qnW, true_and, and_true, or_self, true_or, or_true, and_self]; omega)) only [b220_0, b220_12, b220_18, b220_27, b220_35, b220_50, b220_68, b220_79, b220_97, b220_103, b220_109, b220_119, b220_122, b220_138, b220_148, b220_151, b220_154, qcall_l, qcall_r, qretn_l, qJ_s, qJ_n, qV0, qEx, ↓qif0, ↓zchk_pos, ↓reduceIte, qput, qWW, qmW, qkW, qnW, if_neg (show ¬ at_ < all by omega)]
      · have hP' : qP m := qP_fr hP hf (by decide)
        have hc' : qRc m c N T := qRc_f hc fun x h5 h6 => hf.1 x (by omega) (by simp only [List.mem_cons, List.not_mem_nil, or_false]; omega)
        have hr' : qRr m r all := fun j j1 j2 => by rw [hf.1 68 (by decide) (by decide)]; exact hr j j1 j2
        have br := r_bestToRead e (qW S m) c N g at_ all T r (by omega) hK hP' hc' hT hr' ⟨h2, by omega, by omega⟩
        have hbs := qbr_s (T := T) (N := N) (g := g) (r := r) (all := all) (at_ := at_) hN.1
        simp only [if_neg c0]
        generalize hbe : qbr T N g r all at_ = be at hbs br ⊢
        have na : ¬ (acc.length : Int) = -1 := by omega
        by_cases q1 : be = -1
        · simp only [if_pos q1]
          rw [show qzz c be = -1 from if_pos q1] at br
          have lo := r_letterOf e (qW S m) (r at_) (by omega)
          have gr := hr' at_ h2 (by omega)
          have hlr := qlo_r (r at_)
          by_cases q2 : qlo (r at_) = -1
          · simp only [if_pos q2]
            rw [show qlv (r at_) = 0 from if_pos q2] at lo
            have hx : zF_220 e 6 [vr 37, vi all, vi c, vi g, vi (-1), vi at_, vu, vu] [] (qW S m) = some (.inl (some (vi (-1))), qW S m) := by
              rw [b220_6]
              simp (config := { maxSteps := 2000000 }) (disch := first | omega | (simp only [qb_in, qkW, qmW, qnW, true_and, and_true, or_self, true_or, or_true, and_self]; done) | (simp only [qb_in, qkW, qmW, qnW, true_and, and_true, or_self, true_or, or_true, and_self]; omega)) only [b220_0, b220_12, b220_18, b220_27, b220_35, b220_50, b220_68, b220_79, b220_97, b220_103, b220_109, b220_119, b220_122, b220_138, b220_148, b220_151, b220_154, qcall_l, qcall_r, qretn_l, qJ_s, qJ_n, qV0, qEx, ↓qif0, ↓zchk_pos, ↓reduceIte, qput, qWW, qmW, qkW, qnW, if_pos (show at_ < all by omega), Int.reduceEq]
            refine ⟨m, -1, ?_, hf, Or.inl (by first | exact ⟨rfl, rfl⟩ | exact ⟨trivial, rfl⟩)⟩
            simp (config := { maxSteps := 2000000 }) (disch := first | omega | (simp only [K_37 hK, K_68 hK, P_37_47 hP, P_37_47 hP', qb_in, qkW, qmW, qnW, true_and, and_true, or_self, true_or, or_true, and_self]; done) | (simp only [K_37 hK, K_68 hK, P_37_47 hP, P_37_47 hP', qb_in, qkW, qmW, qnW, true_and, and_true, or_self, true_or, or_true, and_self]; omega)) only [b220_0, b220_12, b220_18, b220_27, b220_35, b220_50, b220_68, b220_79, b220_97, b220_103, b220_109, b220_119, b220_122, b220_138, b220_148, b220_151, b220_154, qcall_l, qcall_r, qretn_l, qJ_s, qJ_n, qV0, qEx, ↓qif0, ↓zchk_pos, ↓reduceIte, qput, qWW, qmW, qkW, qnW, K_37 hK, K_68 hK, P_37_47 hP, P_37_47 hP', if_pos (show at_ < all by omega), if_neg na, br, gr, lo, Int.reduceEq, hx]
          · simp only [if_neg q2]
            rw [show qlv (r at_) = qlo (r at_) + 97 from if_neg q2] at lo
            have e1 : (qlo (r at_) + 97) % 65536 = qlo (r at_) + 97 := by omega
            have hA' : qA (qu m 69 acc.length (qlo (r at_) + 97)) 69 (qL9 (acc ++ [qlo (r at_)])) := by
              rw [qL9_a]
              have := qA_push hA (qlo (r at_) + 97)
              rw [show ((qL9 acc).length : Int) = acc.length by rw [qL9, List.length_map]] at this
              exact this
            have := ih (at_ + 1) _ (acc ++ [qlo (r at_)]) vu vu (by omega) (by omega) (by omega) (qfr_t' hf (qfr_a (A := [69]) (J := []) m 69 _ _ (by decide) (by simp)) (by simp) (by simp)) hA' (by rw [List.length_append]; show ((acc.length + 1 : Nat) : Int) ≤ _; omega)
            rw [show (((acc ++ [qlo (r at_)]).length : Nat) : Int) = (acc.length : Int) + 1 by rw [List.length_append]; rfl] at this
            simp (config := { maxSteps := 2000000 }) (disch := first | omega | (simp only [K_37 hK, K_68 hK, P_37_47 hP, K_69 hK, P_37_48 hP, P_37_47 hP', P_37_48 hP', qb_in, qkW, qmW, qnW, true_and, and_true, or_self, true_or, or_true, and_self]; done) | (simp only [K_37 hK, K_68 hK, P_37_47 hP, K_69 hK, P_37_48 hP, P_37_47 hP', P_37_48 hP', qb_in, qkW, qmW, qnW, true_and, and_true, or_self, true_or, or_true, and_self]; omega)) only [b220_0, b220_12, b220_18, b220_27, b220_35, b220_50, b220_68, b220_79, b220_97, b220_103, b220_109, b220_119, b220_122, b220_138, b220_148, b220_151, b220_154, qcall_l, qcall_r, qretn_l, qJ_s, qJ_n, qV0, qEx, ↓qif0, ↓zchk_pos, ↓reduceIte, qput, qWW, qmW, qkW, qnW, K_37 hK, K_68 hK, P_37_47 hP, K_69 hK, P_37_48 hP, P_37_47 hP', P_37_48 hP', if_pos (show at_ < all by omega), if_neg na, br, gr, lo, e1, if_neg (show ¬ qlo (r at_) + 97 = 0 by omega), Int.reduceEq, q32]
            exact this
        · simp only [if_neg q1]
          have hbr : 0 ≤ be ∧ be < N := by
            rcases hbs with q | q
            · exact absurd q q1
            · exact ⟨q.1, q.2.1⟩
          have hfit := (hbs.resolve_left q1).2.2.2.1
          have ht := hT be hbr.1 hbr.2
          have hcn := qcn_r (T 4 be)
          rw [show qzz c be = 24 * c + be from if_neg q1] at br
          obtain ⟨m1, r1, f1, p1⟩ := cl be acc S 0 hbr.1 hbr.2 (by omega) (T 0 be).toNat 0 m at_ (by omega) hf (by rw [qle, List.append_nil]; exact hA)
          have hP1 : qP m1 := qP_fr hP f1 (by decide)
          have hc1 : qRc m1 c N T := qRc_f hc fun x h5 h6 => f1.1 x (by omega) (by simp only [List.mem_cons, List.not_mem_nil, or_false]; omega)
          obtain ⟨t0, t1, t2, t3, t4, t5⟩ := hc1.2.2.2 be hbr.1 hbr.2
          have hlk : (qlk T be).length = (T 0 be).toNat := qle_l _ _ _
          have cc := r_cellsOf' e (qW S m1) (T 4 be) (by omega)
          have elen : (((acc ++ qlk T be).length : Nat) : Int) = (acc.length : Int) + T 0 be := by
            rw [List.length_append]
            omega
          have := ih (at_ + qcn (T 4 be)) m1 (acc ++ qlk T be) vu vu (by omega) (by omega) (by omega) f1 p1 (by rw [List.length_append]; omega)
          rw [elen] at this
          simp (config := { maxSteps := 2000000 }) (disch := first | omega | (simp only [qb_in, qkW, qmW, qnW, true_and, and_true, or_self, true_or, or_true, and_self]; done) | (simp only [qb_in, qkW, qmW, qnW, true_and, and_true, or_self, true_or, or_true, and_self]; omega)) only [b220_0, b220_12, b220_18, b220_27, b220_35, b220_50, b220_68, b220_97, b220_103, b220_109, b220_119, b220_122, b220_138, b220_148, b220_151, b220_154, qcall_l, qcall_r, qretn_l, qJ_s, qJ_n, qV0, qEx, ↓qif0, ↓zchk_pos, ↓reduceIte, qput, qWW, qmW, qkW, qnW, if_pos (show at_ < all by omega), if_neg na, br, if_neg (show ¬ 24 * c + be = -1 by omega)]
          rw [show (0 : Int) = ((0 : Nat) : Int) from rfl, r1, b220_79]
          simp (config := { maxSteps := 2000000 }) (disch := first | omega | (simp only [K_37 hK, K_41 hK, P_37_7 hP, K_43 hK, P_37_9 hP, P_37_7 hP1, P_37_9 hP1, qb_in, qkW, qmW, qnW, true_and, and_true, or_self, true_or, or_true, and_self]; done) | (simp only [K_37 hK, K_41 hK, P_37_7 hP, K_43 hK, P_37_9 hP, P_37_7 hP1, P_37_9 hP1, qb_in, qkW, qmW, qnW, true_and, and_true, or_self, true_or, or_true, and_self]; omega)) only [b220_0, b220_12, b220_18, b220_27, b220_35, b220_50, b220_68, b220_97, b220_103, b220_109, b220_119, b220_122, b220_138, b220_148, b220_151, b220_154, qcall_l, qcall_r, qretn_l, qJ_s, qJ_n, qV0, qEx, ↓qif0, ↓zchk_pos, ↓reduceIte, qput, qWW, qmW, qkW, qnW, K_37 hK, K_41 hK, P_37_7 hP, K_43 hK, P_37_9 hP, P_37_7 hP1, P_37_9 hP1, t0, t4, cc, q32]
          exact this
  obtain ⟨m', v, r1, f1, p1⟩ := lp all.toNat 0 (zm S) [] vu vu (by omega) (by omega) (by omega) (qfr_r _ _ _) (qA_nil _ _) (by show (0 : Int) ≤ _; omega)
  refine ⟨m', v, ?_, f1, p1⟩
  rw [qWS] at r1
  simp (config := { maxSteps := 2000000 }) (disch := first | omega | (simp only [qb_in, qkW, qmW, qnW, true_and, and_true, or_self, true_or, or_true, and_self]; done) | (simp only [qb_in, qkW, qmW, qnW, true_and, and_true, or_self, true_or, or_true, and_self]; omega)) only [zD_220, b220_0, b220_12, b220_18, b220_27, b220_35, b220_50, b220_68, b220_79, b220_97, b220_103, b220_109, b220_119, b220_122, b220_138, b220_148, b220_151, b220_154, qcall_l, qcall_r, qretn_l, qJ_s, qJ_n, qV0, qEx, ↓qif0, ↓zchk_pos, ↓reduceIte, qput, qWW, qmW, qkW, qnW]
  exact r1
theorem r_isSame (d : Nat) (S : zS) (v n P : Int) (ws : Int → Int) (h : 1 ≤ d) (hK : qK S) (hP : qP (zm S)) (hw : qRw (zm S) ws n P) (hn : 0 ≤ n ∧ n ≤ 10) :
    ∃ u, zD d 223 [vr 37, vi v] S = some (.inl (some (vi u)), S) ∧ (u = 0 ∨ u = 1) ∧ (u = 1 ↔ v = n ∧ ∀ i, 0 ≤ i → i < n → zm S 69 i = ws i + 97) := by
  obtain ⟨e, rfl, -⟩ := qd h
  obtain ⟨w1, w2, w3⟩ := hw
  have lp0 : ∀ (i : Int) (y1 : zV), zF_223 e 16 [vr 37, y1, vi 0, vi i] [] S = some (.inl (some (vi 0)), S) := by
    intro i y1
    rw [b223_16]
    simp (config := { maxSteps := 2000000 }) (disch := first | omega | (simp only [K_37 hK, qb_in, qkW, qmW, qnW, true_and, and_true, or_self, true_or, or_true, and_self]; done) | (simp only [K_37 hK, qb_in, qkW, qmW, qnW, true_and, and_true, or_self, true_or, or_true, and_self]; omega)) only [b223_0, b223_8, b223_12, b223_13, b223_24, b223_28, b223_43, b223_47, b223_48, b223_55, qcall_l, qcall_r, qretn_l, qJ_s, qJ_n, qV0, qEx, ↓qif0, ↓zchk_pos, ↓reduceIte, qput, qWW, qmW, qkW, qnW, K_37 hK, ite_self, Int.reduceLE, true_and, and_self]
  have lp : ∀ (f : Nat) (i : Int) (y1 : zV), 0 ≤ i → n ≤ i + f → ∃ u, zF_223 e 16 [vr 37, y1, vi 1, vi i] [] S = some (.inl (some (vi u)), S) ∧ (u = 0 ∨ u = 1) ∧ (u = 1 ↔ ∀ j, i ≤ j → j < n → zm S 69 j = ws j + 97) := by
    intro f
    induction f with
    | zero =>
      intro i y1 h1 h2
      rw [b223_16]
      refine ⟨1, ?_, Or.inr rfl, ⟨fun _ j j1 j2 => by omega, fun _ => rfl⟩⟩
      simp (config := { maxSteps := 2000000 }) (disch := first | omega | (simp only [K_37 hK, qb_in, qkW, qmW, qnW, true_and, and_true, or_self, true_or, or_true, and_self]; done) | (simp only [K_37 hK, qb_in, qkW, qmW, qnW, true_and, and_true, or_self, true_or, or_true, and_self]; omega)) only [b223_0, b223_8, b223_12, b223_13, b223_24, b223_28, b223_43, b223_47, b223_48, b223_55, qcall_l, qcall_r, qretn_l, qJ_s, qJ_n, qV0, qEx, ↓qif0, ↓zchk_pos, ↓reduceIte, qput, qWW, qmW, qkW, qnW, K_37 hK, w1, if_neg (show ¬ i < n by omega), Int.reduceLE, true_and, and_self]
    | succ f ih =>
      intro i y1 h1 h2
      rw [b223_16]
      by_cases c0 : i < n
      · have g1 := w3 i h1 c0
        by_cases c1 : zm S 69 i = ws i + 97
        · obtain ⟨u, r, hu, g⟩ := ih (i + 1) vu (by omega) (by omega)
          refine ⟨u, ?_, hu, g.trans ⟨fun z j j1 j2 => ?_, fun z j j1 j2 => z j (by omega) j2⟩⟩
          · simp (config := { maxSteps := 2000000 }) (disch := first | omega | (simp only [K_37 hK, K_69 hK, P_37_48 hP, K_64 hK, P_37_35 hP, P_37_48 hP, P_37_35 hP, qb_in, qkW, qmW, qnW, true_and, and_true, or_self, true_or, or_true, and_self]; done) | (simp only [K_37 hK, K_69 hK, P_37_48 hP, K_64 hK, P_37_35 hP, P_37_48 hP, P_37_35 hP, qb_in, qkW, qmW, qnW, true_and, and_true, or_self, true_or, or_true, and_self]; omega)) only [b223_0, b223_8, b223_12, b223_13, b223_24, b223_28, b223_43, b223_47, b223_48, b223_55, qcall_l, qcall_r, qretn_l, qJ_s, qJ_n, qV0, qEx, ↓qif0, ↓zchk_pos, ↓reduceIte, qput, qWW, qmW, qkW, qnW, K_37 hK, K_69 hK, P_37_48 hP, K_64 hK, P_37_35 hP, P_37_48 hP, P_37_35 hP, w1, g1, if_pos c0, if_pos c1, r, Int.reduceEq, q32]
          · by_cases q : j = i
            · rw [q]; exact c1
            · exact z j (by omega) j2
        · refine ⟨0, ?_, Or.inl rfl, ⟨fun z => absurd z (by decide), fun z => absurd (z i (by omega) c0) c1⟩⟩
          simp (config := { maxSteps := 2000000 }) (disch := first | omega | (simp only [K_37 hK, K_69 hK, P_37_48 hP, K_64 hK, P_37_35 hP, P_37_48 hP, P_37_35 hP, qb_in, qkW, qmW, qnW, true_and, and_true, or_self, true_or, or_true, and_self]; done) | (simp only [K_37 hK, K_69 hK, P_37_48 hP, K_64 hK, P_37_35 hP, P_37_48 hP, P_37_35 hP, qb_in, qkW, qmW, qnW, true_and, and_true, or_self, true_or, or_true, and_self]; omega)) only [b223_0, b223_8, b223_12, b223_13, b223_24, b223_28, b223_43, b223_47, b223_48, b223_55, qcall_l, qcall_r, qretn_l, qJ_s, qJ_n, qV0, qEx, ↓qif0, ↓zchk_pos, ↓reduceIte, qput, qWW, qmW, qkW, qnW, K_37 hK, K_69 hK, P_37_48 hP, K_64 hK, P_37_35 hP, P_37_48 hP, P_37_35 hP, w1, g1, if_pos c0, if_neg c1, Int.reduceEq, q32, lp0]
      · refine ⟨1, ?_, Or.inr rfl, ⟨fun _ j j1 j2 => by omega, fun _ => rfl⟩⟩
        simp (config := { maxSteps := 2000000 }) (disch := first | omega | (simp only [K_37 hK, qb_in, qkW, qmW, qnW, true_and, and_true, or_self, true_or, or_true, and_self]; done) | (simp only [K_37 hK, qb_in, qkW, qmW, qnW, true_and, and_true, or_self, true_or, or_true, and_self]; omega)) only [b223_0, b223_8, b223_12, b223_13, b223_24, b223_28, b223_43, b223_47, b223_48, b223_55, qcall_l, qcall_r, qretn_l, qJ_s, qJ_n, qV0, qEx, ↓qif0, ↓zchk_pos, ↓reduceIte, qput, qWW, qmW, qkW, qnW, K_37 hK, w1, if_neg c0, Int.reduceLE, true_and, and_self]
  by_cases c : v = n
  · obtain ⟨u, r, hu, g⟩ := lp n.toNat 0 vu (by omega) (by omega)
    refine ⟨u, ?_, hu, g.trans ⟨fun z => ⟨c, z⟩, fun z => z.2⟩⟩
    simp (config := { maxSteps := 2000000 }) (disch := first | omega | (simp only [K_37 hK, qb_in, qkW, qmW, qnW, true_and, and_true, or_self, true_or, or_true, and_self]; done) | (simp only [K_37 hK, qb_in, qkW, qmW, qnW, true_and, and_true, or_self, true_or, or_true, and_self]; omega)) only [zD_223, b223_0, b223_8, b223_12, b223_13, b223_24, b223_28, b223_43, b223_47, b223_48, b223_55, qcall_l, qcall_r, qretn_l, qJ_s, qJ_n, qV0, qEx, ↓qif0, ↓zchk_pos, ↓reduceIte, qput, qWW, qmW, qkW, qnW, K_37 hK, w1, if_pos c, r]
  · refine ⟨0, ?_, Or.inl rfl, ⟨fun z => absurd z (by decide), fun z => absurd z.1 c⟩⟩
    simp (config := { maxSteps := 2000000 }) (disch := first | omega | (simp only [K_37 hK, qb_in, qkW, qmW, qnW, true_and, and_true, or_self, true_or, or_true, and_self]; done) | (simp only [K_37 hK, qb_in, qkW, qmW, qnW, true_and, and_true, or_self, true_or, or_true, and_self]; omega)) only [zD_223, b223_0, b223_8, b223_12, b223_13, b223_24, b223_28, b223_43, b223_47, b223_48, b223_55, qcall_l, qcall_r, qretn_l, qJ_s, qJ_n, qV0, qEx, ↓qif0, ↓zchk_pos, ↓reduceIte, qput, qWW, qmW, qkW, qnW, K_37 hK, w1, if_neg c, lp0]
