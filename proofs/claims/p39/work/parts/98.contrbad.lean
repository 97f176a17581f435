/-! A contraction that is refused: both say the same. -/
theorem r_contrBad (e : Nat) (Z : zS) (c g p f s px : Int) (he : 3 ≤ e) (hK : qK Z) (hP : qP (zm Z)) (hT : 0 ≤ zm Z 37 2 ∧ zm Z 37 2 ≤ 60) (hC : qRC Z) (hB : 0 ≤ zm Z 37 16 ∧ zm Z 37 16 ≤ 4)
    (hc : ¬ (0 ≤ c ∧ c < zm Z 37 4) ∧ px = 1 ∨ (0 ≤ c ∧ c < zm Z 37 4) ∧ ¬ (qcok0 (zm Z 37 2) g p f s ∧ qslt (zm Z 38) (zm Z 37 2)) ∧ px = 2 ∨ (0 ≤ c ∧ c < zm Z 37 4) ∧ (qcok0 (zm Z 37 2) g p f s ∧ qslt (zm Z 38) (zm Z 37 2)) ∧ (zm Z 39 c = 24 ∨ ¬ zm Z 39 c = 24 ∧ qhwf (zm Z) c (zm Z 37 16).toNat = 1) ∧ px = 3) :
    zD (e + 1) 211 [vr 37, vi c, vi g, vi p, vi f, vi s] Z = some (.inl (some (vi 0)), qW Z (qu (zm Z) 37 0 px)) := by
  obtain ⟨k1, k2⟩ := r_contrCheck e Z c g p f s _ _ (by omega) hK hP rfl rfl hT
  have ic := r_isCode e Z c (by omega) hK hC
  have c3 := hC.2.1
  have hd := r_holds e Z px (by omega) hK
  rw [qb_n (show ¬ px = 0 by omega)] at hd
  have top : ∀ F : Int, zF_211 e 0 [vr 37, vi c, vi g, vi p, vi f, vi s, vu, vu, vu, vu] [] Z = zF_211 e 102 [vr 37, vi c, vi g, vi p, vi f, vi s, vi F, vi (zm Z 37 2), vu, vu] [] Z → zF_211 e 102 [vr 37, vi c, vi g, vi p, vi f, vi s, vi F, vi (zm Z 37 2), vu, vu] [] Z = some (.inl (some (vi 0)), qW Z (qu (zm Z) 37 0 px)) → zD (e + 1) 211 [vr 37, vi c, vi g, vi p, vi f, vi s] Z = some (.inl (some (vi 0)), qW Z (qu (zm Z) 37 0 px)) := fun F h1 h2 => by
    rw [← h2, ← h1]
    rfl
  rcases hc with ⟨h1, rfl⟩ | ⟨h1, h2, rfl⟩ | ⟨h1, h2, h3, rfl⟩
  · rw [qb_n (show ¬ (0 ≤ c ∧ c ≤ zm Z 37 4 - 1) by omega)] at ic
    have fin : ∀ F : Int, zF_211 e 102 [vr 37, vi c, vi g, vi p, vi f, vi s, vi F, vi (zm Z 37 2), vu, vu] [] Z = some (.inl (some (vi 0)), qW Z (qu (zm Z) 37 0 1)) := fun F => by
      rw [b211_102]
      simp (config := { maxSteps := 2000000 }) (disch := first | omega | (simp only [K_37 hK, qb_in, qkW, qmW, qnW, true_and, and_true, or_self, true_or, or_true, and_self]; done) | (simp only [K_37 hK, qb_in, qkW, qmW, qnW, true_and, and_true, or_self, true_or, or_true, and_self]; omega)) only [b211_0, b211_10, b211_13, b211_19, b211_22, b211_28, b211_31, b211_36, b211_39, b211_44, b211_49, b211_52, b211_56, b211_57, b211_71, b211_76, b211_86, b211_89, b211_93, b211_94, b211_102, b211_107, b211_115, b211_119, b211_124, b211_128, b211_139, b211_144, b211_147, b211_151, b211_152, b211_155, b211_158, b211_160, b211_174, b211_185, b211_203, b211_211, b211_221, b211_237, b211_255, b211_267, qcall_l, qcall_r, qretn_l, qJ_s, qJ_n, qV0, qEx, ↓qif0, ↓zchk_pos, ↓reduceIte, qput, qWW, qmW, qkW, qnW, K_37 hK, ic, hd, Int.reduceEq]
    by_cases q : qcok0 (zm Z 37 2) g p f s ∧ qslt (zm Z 38) (zm Z 37 2)
    · exact top 1 (k1 q) (fin 1)
    · exact top 0 (k2 q) (fin 0)
  · rw [qb_p (show 0 ≤ c ∧ c ≤ zm Z 37 4 - 1 by omega)] at ic
    refine top 0 (k2 h2) ?_
    rw [b211_102]
    simp (config := { maxSteps := 2000000 }) (disch := first | omega | (simp only [K_37 hK, qb_in, qkW, qmW, qnW, true_and, and_true, or_self, true_or, or_true, and_self]; done) | (simp only [K_37 hK, qb_in, qkW, qmW, qnW, true_and, and_true, or_self, true_or, or_true, and_self]; omega)) only [b211_0, b211_10, b211_13, b211_19, b211_22, b211_28, b211_31, b211_36, b211_39, b211_44, b211_49, b211_52, b211_56, b211_57, b211_71, b211_76, b211_86, b211_89, b211_93, b211_94, b211_102, b211_107, b211_115, b211_119, b211_124, b211_128, b211_139, b211_144, b211_147, b211_151, b211_152, b211_155, b211_158, b211_160, b211_174, b211_185, b211_203, b211_211, b211_221, b211_237, b211_255, b211_267, qcall_l, qcall_r, qretn_l, qJ_s, qJ_n, qV0, qEx, ↓qif0, ↓zchk_pos, ↓reduceIte, qput, qWW, qmW, qkW, qnW, K_37 hK, ic, hd, Int.reduceEq]
  · rw [qb_p (show 0 ≤ c ∧ c ≤ zm Z 37 4 - 1 by omega)] at ic
    have hw := r_hasWords e Z c (by omega) hK hP hB
    refine top 1 (k1 h2) ?_
    rw [b211_102]
    rcases h3 with h3 | ⟨h3, h4⟩
    · simp (config := { maxSteps := 2000000 }) (disch := first | omega | (simp only [K_37 hK, K_39 hK, P_37_5 hP, qb_in, qkW, qmW, qnW, true_and, and_true, or_self, true_or, or_true, and_self]; done) | (simp only [K_37 hK, K_39 hK, P_37_5 hP, qb_in, qkW, qmW, qnW, true_and, and_true, or_self, true_or, or_true, and_self]; omega)) only [b211_0, b211_10, b211_13, b211_19, b211_22, b211_28, b211_31, b211_36, b211_39, b211_44, b211_49, b211_52, b211_56, b211_57, b211_71, b211_76, b211_86, b211_89, b211_93, b211_94, b211_102, b211_107, b211_115, b211_119, b211_124, b211_128, b211_139, b211_144, b211_147, b211_151, b211_152, b211_155, b211_158, b211_160, b211_174, b211_185, b211_203, b211_211, b211_221, b211_237, b211_255, b211_267, qcall_l, qcall_r, qretn_l, qJ_s, qJ_n, qV0, qEx, ↓qif0, ↓zchk_pos, ↓reduceIte, qput, qWW, qmW, qkW, qnW, K_37 hK, ic, hd, K_39 hK, P_37_5 hP, if_pos h3, Int.reduceEq]
    · rw [h4] at hw
      simp (config := { maxSteps := 2000000 }) (disch := first | omega | (simp only [K_37 hK, K_39 hK, P_37_5 hP, qb_in, qkW, qmW, qnW, true_and, and_true, or_self, true_or, or_true, and_self]; done) | (simp only [K_37 hK, K_39 hK, P_37_5 hP, qb_in, qkW, qmW, qnW, true_and, and_true, or_self, true_or, or_true, and_self]; omega)) only [b211_0, b211_10, b211_13, b211_19, b211_22, b211_28, b211_31, b211_36, b211_39, b211_44, b211_49, b211_52, b211_56, b211_57, b211_71, b211_76, b211_86, b211_89, b211_93, b211_94, b211_102, b211_107, b211_115, b211_119, b211_124, b211_128, b211_139, b211_144, b211_147, b211_151, b211_152, b211_155, b211_158, b211_160, b211_174, b211_185, b211_203, b211_211, b211_221, b211_237, b211_255, b211_267, qcall_l, qcall_r, qretn_l, qJ_s, qJ_n, qV0, qEx, ↓qif0, ↓zchk_pos, ↓reduceIte, qput, qWW, qmW, qkW, qnW, K_37 hK, ic, hd, K_39 hK, P_37_5 hP, if_neg h3, hw, Int.reduceEq]
theorem q_contrBad (d : Nat) (S : zS) (c g p f s : Int) (h : 6 ≤ d) (hK : qK S) (hP : qP (zm S)) (hT : qRT S) (hC : qRC S) (hB : qBh S)
    (hb : ¬ ((0 ≤ c ∧ c < zm S 37 4) ∧ (qcok0 (zm S 37 2) g p f s ∧ qslt (zm S 38) (zm S 37 2)) ∧ ¬ zm S 39 c = 24 ∧ qhwf (zm S) c (zm S 37 16).toNat = 0)) :
    ∃ x, (¬ qps3 x = 0) ∧ zD d 119 [vr 3, vi c, vi g, vi p, vi f, vi s] S = some (.inr x, zbump S) ∧ zD d 211 [vr 37, vi c, vi g, vi p, vi f, vi s] (zbump S) = some (.inl (some (vi 0)), zbump (qW S (qu (zm S) 37 0 (qps3 x)))) := by
  obtain ⟨e, rfl, h1⟩ := qd h
  have hKb : qK (zbump S) := hK
  have ref := fun px hc => r_contrBad e (zbump S) c g p f s px (by omega) hKb hP hT.2.1 hC hB.2.1 hc
  by_cases c1 : 0 ≤ c ∧ c < zm S 37 4
  · have co := s_codeOf_y e S c (by omega) hK hP hC c1
    have cn := hC.2.2.1 c c1.1 c1.2
    have kc : zk S (zm S 6 c) = (22, 0) := cn.1.1
    have nc : zm S (zm S 6 c) 1 = zm S 39 c := cn.2.1.2.2.1
    have nr : 0 ≤ zm S 39 c ∧ zm S 39 c ≤ 24 := cn.2.1.2.2.2.1
    obtain ⟨l1, l2⟩ := s_isSmallLetters e S (zm S 37 2) (zm S 5) (by omega) hK hP hT.1 rfl hT.2.1
    rw [qslt_e hT.2.2.1] at l1 l2
    have f1 := s_canBeContracted e S f (by omega)
    have f2 := s_canBeContracted e S s (by omega)
    by_cases c2 : qcok0 (zm S 37 2) g p f s ∧ qslt (zm S 38) (zm S 37 2)
    · obtain ⟨⟨y1, y2, y3, y4, y5⟩, y6⟩ := c2
      have l1 := l1 y6
      rw [if_pos y1] at l1
      rw [qb_p y4] at f1
      have c3 : zm S 39 c = 24 ∨ ¬ zm S 39 c = 24 ∧ qhwf (zm S) c (zm S 37 16).toNat = 1 := by
        by_cases z : zm S 39 c = 24
        · exact Or.inl z
        · refine Or.inr ⟨z, (qhwf_r _ _ _).resolve_left fun z2 => hb ⟨c1, ⟨⟨y1, y2, y3, y4, y5⟩, y6⟩, z, z2⟩⟩
      refine ⟨1, by decide, ?_, ref _ (Or.inr (Or.inr ⟨c1, ⟨⟨y1, y2, y3, y4, y5⟩, y6⟩, c3, rfl⟩))⟩
      have end_ : zF_119 e 90 [vr 3, vu, vi g, vi p, vi f, vi s, vr (zm S 6 c), vu, vu] [] S = some (.inr 1, zbump S) := by
        rw [b119_90]
        rcases c3 with c3 | ⟨c3, c4⟩
        · simp (config := { maxSteps := 2000000 }) (disch := first | omega | (simp only [K_3 hK, kc, qb_in, qkW, qmW, qnW, true_and, and_true, or_self, true_or, or_true, and_self]; done) | (simp only [K_3 hK, kc, qb_in, qkW, qmW, qnW, true_and, and_true, or_self, true_or, or_true, and_self]; omega)) only [b119_0, b119_5, b119_17, b119_20, b119_30, b119_35, b119_40, b119_44, b119_49, b119_59, b119_64, b119_67, b119_72, b119_77, b119_80, b119_90, b119_100, b119_106, b119_109, b119_119, b119_132, b119_149, b119_156, b119_174, b119_180, b119_195, qcall_l, qcall_r, qretn_l, qJ_s, qJ_n, qV0, qEx, ↓qif0, ↓zchk_pos, ↓reduceIte, qput, qWW, qmW, qkW, qnW, K_3 hK, kc, nc, if_neg (show ¬ zm S 39 c < 24 by omega)]
        · have hw := s_hasWordsOfCode e S c (by omega) hK hP hC hB c1
          rw [c4] at hw
          simp (config := { maxSteps := 2000000 }) (disch := first | omega | (simp only [K_3 hK, kc, qb_in, qkW, qmW, qnW, true_and, and_true, or_self, true_or, or_true, and_self]; done) | (simp only [K_3 hK, kc, qb_in, qkW, qmW, qnW, true_and, and_true, or_self, true_or, or_true, and_self]; omega)) only [b119_0, b119_5, b119_17, b119_20, b119_30, b119_35, b119_40, b119_44, b119_49, b119_59, b119_64, b119_67, b119_72, b119_77, b119_80, b119_90, b119_100, b119_106, b119_109, b119_119, b119_132, b119_149, b119_156, b119_174, b119_180, b119_195, qcall_l, qcall_r, qretn_l, qJ_s, qJ_n, qV0, qEx, ↓qif0, ↓zchk_pos, ↓reduceIte, qput, qWW, qmW, qkW, qnW, K_3 hK, kc, nc, if_pos (show zm S 39 c < 24 by omega), hw, Int.reduceEq]
      rcases y5 with y5 | y5
      · simp (config := { maxSteps := 2000000 }) (disch := first | omega | (simp only [K_3 hK, K_4 hK, P_3_0 hP, P_3_0 hP, qb_in, qkW, qmW, qnW, true_and, and_true, or_self, true_or, or_true, and_self]; done) | (simp only [K_3 hK, K_4 hK, P_3_0 hP, P_3_0 hP, qb_in, qkW, qmW, qnW, true_and, and_true, or_self, true_or, or_true, and_self]; omega)) only [zD_119, b119_0, b119_5, b119_17, b119_20, b119_30, b119_35, b119_40, b119_44, b119_49, b119_59, b119_64, b119_67, b119_72, b119_77, b119_80, b119_100, b119_106, b119_109, b119_119, b119_132, b119_149, b119_156, b119_174, b119_180, b119_195, qcall_l, qcall_r, qretn_l, qJ_s, qJ_n, qV0, qEx, ↓qif0, ↓zchk_pos, ↓reduceIte, qput, qWW, qmW, qkW, qnW, K_3 hK, K_4 hK, P_3_0 hP, P_3_0 hP, co, l1, f1, if_neg (show ¬ g < 1 by omega), if_neg (show ¬ 3 < g by omega), if_neg (show ¬ p < 0 by omega), if_neg (show ¬ 4 < p by omega), if_pos y5, end_, Int.reduceEq]
      · rw [qb_p y5] at f2
        by_cases s0 : s = 0
        · simp (config := { maxSteps := 2000000 }) (disch := first | omega | (simp only [K_3 hK, K_4 hK, P_3_0 hP, P_3_0 hP, qb_in, qkW, qmW, qnW, true_and, and_true, or_self, true_or, or_true, and_self]; done) | (simp only [K_3 hK, K_4 hK, P_3_0 hP, P_3_0 hP, qb_in, qkW, qmW, qnW, true_and, and_true, or_self, true_or, or_true, and_self]; omega)) only [zD_119, b119_0, b119_5, b119_17, b119_20, b119_30, b119_35, b119_40, b119_44, b119_49, b119_59, b119_64, b119_67, b119_72, b119_77, b119_80, b119_100, b119_106, b119_109, b119_119, b119_132, b119_149, b119_156, b119_174, b119_180, b119_195, qcall_l, qcall_r, qretn_l, qJ_s, qJ_n, qV0, qEx, ↓qif0, ↓zchk_pos, ↓reduceIte, qput, qWW, qmW, qkW, qnW, K_3 hK, K_4 hK, P_3_0 hP, P_3_0 hP, co, l1, f1, if_neg (show ¬ g < 1 by omega), if_neg (show ¬ 3 < g by omega), if_neg (show ¬ p < 0 by omega), if_neg (show ¬ 4 < p by omega), if_pos s0, end_, Int.reduceEq]
        · simp (config := { maxSteps := 2000000 }) (disch := first | omega | (simp only [K_3 hK, K_4 hK, P_3_0 hP, P_3_0 hP, qb_in, qkW, qmW, qnW, true_and, and_true, or_self, true_or, or_true, and_self]; done) | (simp only [K_3 hK, K_4 hK, P_3_0 hP, P_3_0 hP, qb_in, qkW, qmW, qnW, true_and, and_true, or_self, true_or, or_true, and_self]; omega)) only [zD_119, b119_0, b119_5, b119_17, b119_20, b119_30, b119_35, b119_40, b119_44, b119_49, b119_59, b119_64, b119_67, b119_72, b119_77, b119_80, b119_100, b119_106, b119_109, b119_119, b119_132, b119_149, b119_156, b119_174, b119_180, b119_195, qcall_l, qcall_r, qretn_l, qJ_s, qJ_n, qV0, qEx, ↓qif0, ↓zchk_pos, ↓reduceIte, qput, qWW, qmW, qkW, qnW, K_3 hK, K_4 hK, P_3_0 hP, P_3_0 hP, co, l1, f1, f2, if_neg (show ¬ g < 1 by omega), if_neg (show ¬ 3 < g by omega), if_neg (show ¬ p < 0 by omega), if_neg (show ¬ 4 < p by omega), if_neg s0, end_, Int.reduceEq]
    · refine ⟨0, by decide, ?_, ref _ (Or.inr (Or.inl ⟨c1, c2, rfl⟩))⟩
      by_cases z6 : qslt (zm S 38) (zm S 37 2)
      · have l1 := l1 z6
        by_cases z1 : 2 ≤ zm S 37 2 ∧ zm S 37 2 ≤ 6
        · rw [if_pos z1] at l1
          by_cases g1 : g < 1
          · simp (config := { maxSteps := 2000000 }) (disch := first | omega | (simp only [K_3 hK, K_4 hK, P_3_0 hP, P_3_0 hP, qb_in, qkW, qmW, qnW, true_and, and_true, or_self, true_or, or_true, and_self]; done) | (simp only [K_3 hK, K_4 hK, P_3_0 hP, P_3_0 hP, qb_in, qkW, qmW, qnW, true_and, and_true, or_self, true_or, or_true, and_self]; omega)) only [zD_119, b119_0, b119_5, b119_17, b119_20, b119_30, b119_35, b119_40, b119_44, b119_49, b119_59, b119_64, b119_67, b119_72, b119_77, b119_80, b119_90, b119_100, b119_106, b119_109, b119_119, b119_132, b119_149, b119_156, b119_174, b119_180, b119_195, qcall_l, qcall_r, qretn_l, qJ_s, qJ_n, qV0, qEx, ↓qif0, ↓zchk_pos, ↓reduceIte, qput, qWW, qmW, qkW, qnW, K_3 hK, K_4 hK, P_3_0 hP, P_3_0 hP, co, l1, if_pos g1, Int.reduceEq]
          by_cases g2 : 3 < g
          · simp (config := { maxSteps := 2000000 }) (disch := first | omega | (simp only [K_3 hK, K_4 hK, P_3_0 hP, P_3_0 hP, qb_in, qkW, qmW, qnW, true_and, and_true, or_self, true_or, or_true, and_self]; done) | (simp only [K_3 hK, K_4 hK, P_3_0 hP, P_3_0 hP, qb_in, qkW, qmW, qnW, true_and, and_true, or_self, true_or, or_true, and_self]; omega)) only [zD_119, b119_0, b119_5, b119_17, b119_20, b119_30, b119_35, b119_40, b119_44, b119_49, b119_59, b119_64, b119_67, b119_72, b119_77, b119_80, b119_90, b119_100, b119_106, b119_109, b119_119, b119_132, b119_149, b119_156, b119_174, b119_180, b119_195, qcall_l, qcall_r, qretn_l, qJ_s, qJ_n, qV0, qEx, ↓qif0, ↓zchk_pos, ↓reduceIte, qput, qWW, qmW, qkW, qnW, K_3 hK, K_4 hK, P_3_0 hP, P_3_0 hP, co, l1, if_neg g1, if_pos g2, Int.reduceEq]
          by_cases g3 : p < 0
          · simp (config := { maxSteps := 2000000 }) (disch := first | omega | (simp only [K_3 hK, K_4 hK, P_3_0 hP, P_3_0 hP, qb_in, qkW, qmW, qnW, true_and, and_true, or_self, true_or, or_true, and_self]; done) | (simp only [K_3 hK, K_4 hK, P_3_0 hP, P_3_0 hP, qb_in, qkW, qmW, qnW, true_and, and_true, or_self, true_or, or_true, and_self]; omega)) only [zD_119, b119_0, b119_5, b119_17, b119_20, b119_30, b119_35, b119_40, b119_44, b119_49, b119_59, b119_64, b119_67, b119_72, b119_77, b119_80, b119_90, b119_100, b119_106, b119_109, b119_119, b119_132, b119_149, b119_156, b119_174, b119_180, b119_195, qcall_l, qcall_r, qretn_l, qJ_s, qJ_n, qV0, qEx, ↓qif0, ↓zchk_pos, ↓reduceIte, qput, qWW, qmW, qkW, qnW, K_3 hK, K_4 hK, P_3_0 hP, P_3_0 hP, co, l1, if_neg g1, if_neg g2, if_pos g3, Int.reduceEq]
          by_cases g4 : 4 < p
          · simp (config := { maxSteps := 2000000 }) (disch := first | omega | (simp only [K_3 hK, K_4 hK, P_3_0 hP, P_3_0 hP, qb_in, qkW, qmW, qnW, true_and, and_true, or_self, true_or, or_true, and_self]; done) | (simp only [K_3 hK, K_4 hK, P_3_0 hP, P_3_0 hP, qb_in, qkW, qmW, qnW, true_and, and_true, or_self, true_or, or_true, and_self]; omega)) only [zD_119, b119_0, b119_5, b119_17, b119_20, b119_30, b119_35, b119_40, b119_44, b119_49, b119_59, b119_64, b119_67, b119_72, b119_77, b119_80, b119_90, b119_100, b119_106, b119_109, b119_119, b119_132, b119_149, b119_156, b119_174, b119_180, b119_195, qcall_l, qcall_r, qretn_l, qJ_s, qJ_n, qV0, qEx, ↓qif0, ↓zchk_pos, ↓reduceIte, qput, qWW, qmW, qkW, qnW, K_3 hK, K_4 hK, P_3_0 hP, P_3_0 hP, co, l1, if_neg g1, if_neg g2, if_neg g3, if_pos g4, Int.reduceEq]
          by_cases y4 : qfre f
          · rw [qb_p y4] at f1
            by_cases s0 : s = 0
            · exact absurd ⟨⟨z1, ⟨by omega, by omega⟩, ⟨by omega, by omega⟩, y4, Or.inl s0⟩, z6⟩ c2
            · by_cases y5 : qfre s
              · exact absurd ⟨⟨z1, ⟨by omega, by omega⟩, ⟨by omega, by omega⟩, y4, Or.inr y5⟩, z6⟩ c2
              · rw [qb_n y5] at f2
                simp (config := { maxSteps := 2000000 }) (disch := first | omega | (simp only [K_3 hK, K_4 hK, P_3_0 hP, P_3_0 hP, qb_in, qkW, qmW, qnW, true_and, and_true, or_self, true_or, or_true, and_self]; done) | (simp only [K_3 hK, K_4 hK, P_3_0 hP, P_3_0 hP, qb_in, qkW, qmW, qnW, true_and, and_true, or_self, true_or, or_true, and_self]; omega)) only [zD_119, b119_0, b119_5, b119_17, b119_20, b119_30, b119_35, b119_40, b119_44, b119_49, b119_59, b119_64, b119_67, b119_72, b119_77, b119_80, b119_90, b119_100, b119_106, b119_109, b119_119, b119_132, b119_149, b119_156, b119_174, b119_180, b119_195, qcall_l, qcall_r, qretn_l, qJ_s, qJ_n, qV0, qEx, ↓qif0, ↓zchk_pos, ↓reduceIte, qput, qWW, qmW, qkW, qnW, K_3 hK, K_4 hK, P_3_0 hP, P_3_0 hP, co, l1, if_neg g1, if_neg g2, if_neg g3, if_neg g4, f1, f2, if_neg s0, Int.reduceEq]
          · rw [qb_n y4] at f1
            simp (config := { maxSteps := 2000000 }) (disch := first | omega | (simp only [K_3 hK, K_4 hK, P_3_0 hP, P_3_0 hP, qb_in, qkW, qmW, qnW, true_and, and_true, or_self, true_or, or_true, and_self]; done) | (simp only [K_3 hK, K_4 hK, P_3_0 hP, P_3_0 hP, qb_in, qkW, qmW, qnW, true_and, and_true, or_self, true_or, or_true, and_self]; omega)) only [zD_119, b119_0, b119_5, b119_17, b119_20, b119_30, b119_35, b119_40, b119_44, b119_49, b119_59, b119_64, b119_67, b119_72, b119_77, b119_80, b119_90, b119_100, b119_106, b119_109, b119_119, b119_132, b119_149, b119_156, b119_174, b119_180, b119_195, qcall_l, qcall_r, qretn_l, qJ_s, qJ_n, qV0, qEx, ↓qif0, ↓zchk_pos, ↓reduceIte, qput, qWW, qmW, qkW, qnW, K_3 hK, K_4 hK, P_3_0 hP, P_3_0 hP, co, l1, if_neg g1, if_neg g2, if_neg g3, if_neg g4, f1, Int.reduceEq]
        · rw [if_neg z1] at l1
          simp (config := { maxSteps := 2000000 }) (disch := first | omega | (simp only [K_3 hK, K_4 hK, P_3_0 hP, P_3_0 hP, qb_in, qkW, qmW, qnW, true_and, and_true, or_self, true_or, or_true, and_self]; done) | (simp only [K_3 hK, K_4 hK, P_3_0 hP, P_3_0 hP, qb_in, qkW, qmW, qnW, true_and, and_true, or_self, true_or, or_true, and_self]; omega)) only [zD_119, b119_0, b119_5, b119_17, b119_20, b119_30, b119_35, b119_40, b119_44, b119_49, b119_59, b119_64, b119_67, b119_72, b119_77, b119_80, b119_90, b119_100, b119_106, b119_109, b119_119, b119_132, b119_149, b119_156, b119_174, b119_180, b119_195, qcall_l, qcall_r, qretn_l, qJ_s, qJ_n, qV0, qEx, ↓qif0, ↓zchk_pos, ↓reduceIte, qput, qWW, qmW, qkW, qnW, K_3 hK, K_4 hK, P_3_0 hP, P_3_0 hP, co, l1, Int.reduceEq]
      · have l2 := l2 z6
        simp (config := { maxSteps := 2000000 }) (disch := first | omega | (simp only [K_3 hK, K_4 hK, P_3_0 hP, P_3_0 hP, qb_in, qkW, qmW, qnW, true_and, and_true, or_self, true_or, or_true, and_self]; done) | (simp only [K_3 hK, K_4 hK, P_3_0 hP, P_3_0 hP, qb_in, qkW, qmW, qnW, true_and, and_true, or_self, true_or, or_true, and_self]; omega)) only [zD_119, b119_0, b119_5, b119_17, b119_20, b119_30, b119_35, b119_40, b119_44, b119_49, b119_59, b119_64, b119_67, b119_72, b119_77, b119_80, b119_90, b119_100, b119_106, b119_109, b119_119, b119_132, b119_149, b119_156, b119_174, b119_180, b119_195, qcall_l, qcall_r, qretn_l, qJ_s, qJ_n, qV0, qEx, ↓qif0, ↓zchk_pos, ↓reduceIte, qput, qWW, qmW, qkW, qnW, K_3 hK, K_4 hK, P_3_0 hP, P_3_0 hP, co, l2, Int.reduceEq]
  · have co := s_codeOf_n e S c (by omega) hK hC c1
    refine ⟨2, by decide, ?_, ref _ (Or.inl ⟨c1, rfl⟩)⟩
    simp (config := { maxSteps := 2000000 }) (disch := first | omega | (simp only [K_3 hK, qb_in, qkW, qmW, qnW, true_and, and_true, or_self, true_or, or_true, and_self]; done) | (simp only [K_3 hK, qb_in, qkW, qmW, qnW, true_and, and_true, or_self, true_or, or_true, and_self]; omega)) only [zD_119, b119_0, b119_5, b119_17, b119_20, b119_30, b119_35, b119_40, b119_44, b119_49, b119_59, b119_64, b119_67, b119_72, b119_77, b119_80, b119_90, b119_100, b119_106, b119_109, b119_119, b119_132, b119_149, b119_156, b119_174, b119_180, b119_195, qcall_l, qcall_r, qretn_l, qJ_s, qJ_n, qV0, qEx, ↓qif0, ↓zchk_pos, ↓reduceIte, qput, qWW, qmW, qkW, qnW, K_3 hK, co]
