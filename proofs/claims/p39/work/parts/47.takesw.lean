/-! The reference takes a word from the tape: the word at hand. -/
def qmv (c : Int) : Int := if qmk c then c else 0
theorem r_tkA (d : Nat) (S : zS) (h : 4 ≤ d) (hK : qK S) (hP : qP (zm S)) (hT : qTr (zm S)) (i k e c : Int) (h0 : 0 ≤ i) (h9 : i ≤ 60) (hw : qWd (qms (zm S)) i k e c) :
    zF_206 d 0 [vr 37, vi i, vu, vu, vu, vu] [] S = zF_206 d 79 [vr 37, vu, vi (qeo (qms (zm S)) i), vi k, vi e, vu] [vi (qmv (qms (zm S) e)), vr 37] (qW S (qu (zm S) 37 32 (qb (qms (zm S) i = 42)))) := by
  obtain ⟨hk, hke, hE, hc⟩ := hw
  have hT2 := hT
  obtain ⟨hn0, hn, hr⟩ := hT2
  have hb := qb_r (qms (zm S) i = 42)
  have hb2 := qb_r (qmk (qms (zm S) e))
  have hin := qeo_in (qms (zm S)) i h0
  have g := fun d T i h1 h2 h3 => v_signAt d T i (zm S 38) (zm S 37 2) hn hr h1 h2 h3
  have g2 := fun d i h1 h2 h3 => r_endOfWord d S i h1 h2 h3 hK hP hT
  have hv : qTv (qW S (zm S)) (zm S 38) (zm S 37 2) := ⟨hK, P_37_1 hP, rfl, rfl⟩
  have hv0 : qTv S (zm S 38) (zm S 37 2) := ⟨hK, P_37_1 hP, rfl, rfl⟩
  have hv1 : ∀ v, qTv (qW S (qu (zm S) 37 32 v)) (zm S 38) (zm S 37 2) := fun v => by
    rw [qTv_37 _ _ _ _ _ _ (by decide) (by decide)]
    exact hv
  unfold qmv
  by_cases hm : qmk (qms (zm S) e)
  · rw [qb_p hm] at hE
    have e1 : e + 1 - 1 = e := by omega
    simp (config := { maxSteps := 2000000 }) (disch := first | omega | (simp only [K_37 hK, hv0, hv1, qb_in, qkW, qmW, qnW, true_and, and_true, or_self, true_or, or_true, and_self]; done) | (simp only [K_37 hK, hv0, hv1, qb_in, qkW, qmW, qnW, true_and, and_true, or_self, true_or, or_true, and_self]; omega)) only [b206_0, b206_5, m206_12, b206_17, b206_21, m206_22, b206_33, b206_37, b206_38, b206_47, m206_50, b206_53, b206_59, b206_60, b206_69, b206_75, b206_78, b206_88, b206_91, b206_108, b206_111, b206_114, b206_118, b206_126, b206_133, m206_136, b206_139, b206_143, b206_144, b206_159, b206_173, b206_176, b206_183, b206_187, qcall_l, qcall_r, qretn_l, qJ_s, qJ_n, qV0, qEx, ↓qif0, ↓zchk_pos, ↓reduceIte, qput, qWW, qmW, qkW, qnW, K_37 hK, g, g2, hE, e1, qb_p hm, if_pos hm, qu1, Int.reduceEq, qb_0, Classical.not_not, q32, hk.symm, r_isAnyMark, if_pos (show e < e + 1 by omega)]
  · have hm2 : ¬ qmk (qms (zm S) (e - 1)) := by
      rcases hc with ⟨-, -, hc⟩ | ⟨-, ⟨-, hc⟩ | ⟨-, hc1, hc2⟩ | ⟨-, -, hc⟩⟩
      · have := hc (e - 1) (by omega) (by omega); omega
      · have := hc (e - 1) (by omega) (by omega); omega
      · by_cases e1 : e - 1 = k
        · rw [e1]; omega
        · have := hc2 (e - 1) (by omega) (by omega); omega
      · have := hc (e - 1) (by omega) (by omega); omega
    rw [qb_n hm, Int.add_zero] at hE
    simp (config := { maxSteps := 2000000 }) (disch := first | omega | (simp only [K_37 hK, hv0, hv1, qb_in, qkW, qmW, qnW, true_and, and_true, or_self, true_or, or_true, and_self]; done) | (simp only [K_37 hK, hv0, hv1, qb_in, qkW, qmW, qnW, true_and, and_true, or_self, true_or, or_true, and_self]; omega)) only [b206_0, b206_5, m206_12, b206_17, b206_21, m206_22, b206_33, b206_37, b206_38, b206_47, m206_50, b206_53, b206_59, b206_60, b206_69, b206_75, b206_78, b206_88, b206_91, b206_108, b206_111, b206_114, b206_118, b206_126, b206_133, m206_136, b206_139, b206_143, b206_144, b206_159, b206_173, b206_176, b206_183, b206_187, qcall_l, qcall_r, qretn_l, qJ_s, qJ_n, qV0, qEx, ↓qif0, ↓zchk_pos, ↓reduceIte, qput, qWW, qmW, qkW, qnW, K_37 hK, g, g2, hE, qb_n hm2, if_neg hm, qu1, Int.reduceEq, qb_0, Classical.not_not, q32, hk.symm, r_isAnyMark, if_neg (show ¬ e < e by omega)]
theorem r_tkB (d : Nat) (S : zS) (h : 4 ≤ d) (m : Int → Int → Int) (t : Int → Int) (n : Int) (hn : n ≤ 60) (hr : ∀ i, 0 ≤ i → i < n → 0 ≤ t i ∧ t i < 65536) (hv : qTv (qW S m) t n) (i k e c E mk : Int) (h0 : 0 ≤ i) (h9 : i ≤ 60) (hw : qWd (qsg t n) i k e c) (hm2 : 0 ≤ mk ∧ mk < 65536) :
    zF_206 d 79 [vr 37, vu, vi E, vi k, vi e, vu] [vi mk, vr 37] (qW S m) = zF_206 d 150 [vr 37, vu, vi E, vi k, vu, vi 0] [] (qW S (qu (qu (qu (qu m 37 37 mk) 37 33 (qb (c = 3))) 37 36 (e - k)) 37 34 (if c = 3 then 0 else c))) := by
  have hK : qK S := hv.1
  have hk := hw.1
  have hb := qb_r (qsg t n i = 42)
  have hke := hw.2.1
  have hc := hw.2.2.2
  have g := fun d T i h1 h2 h3 => v_signAt d T i t n hn hr h1 h2 h3
  have q33 : qb ((3 : Int) = 3) = 1 := rfl
  have q03 : qb ((0 : Int) = 3) = 0 := rfl
  have q13 : qb ((1 : Int) = 3) = 0 := rfl
  have q23 : qb ((2 : Int) = 3) = 0 := rfl
  rcases hc with ⟨rfl, h6, hc⟩ | ⟨h6, ⟨rfl, hc⟩ | ⟨rfl, hc1, hc2⟩ | ⟨rfl, h7, hc⟩⟩
  · have f1 := hc k (by omega) (by omega)
    have f2 : ¬ qbg (qsg t n k) := by omega
    simp (config := { maxSteps := 2000000 }) (disch := first | omega | (simp only [K_37 hK, hv, qTv_37, ne_eq, Int.reduceEq, not_false_eq_true, qb_in, qkW, qmW, qnW, true_and, and_true, or_self, true_or, or_true, and_self]; done) | (simp only [K_37 hK, hv, qTv_37, ne_eq, Int.reduceEq, not_false_eq_true, qb_in, qkW, qmW, qnW, true_and, and_true, or_self, true_or, or_true, and_self]; omega)) only [b206_0, b206_5, m206_12, b206_17, b206_21, m206_22, b206_33, b206_37, b206_38, b206_47, m206_50, b206_53, b206_59, b206_60, b206_69, b206_75, b206_78, b206_79, b206_88, b206_91, b206_108, b206_111, b206_114, b206_118, b206_126, b206_133, m206_136, b206_139, b206_143, b206_144, b206_159, b206_173, b206_176, b206_183, b206_187, qcall_l, qcall_r, qretn_l, qJ_s, qJ_n, qV0, qEx, ↓qif0, ↓zchk_pos, ↓reduceIte, qput, qWW, qmW, qkW, qnW, K_37 hK, g, r_isDigit, r_isBig, qb_p f1, qb_n f2, qb_T, qb_F, qu1, Int.reduceEq, q32]
  · have f1 := hc k (by omega) (by omega)
    have f2 : ¬ qbg (qsg t n k) := by omega
    have f3 : ¬ qdg (qsg t n k) := by omega
    simp (config := { maxSteps := 2000000 }) (disch := first | omega | (simp only [K_37 hK, hv, qTv_37, ne_eq, Int.reduceEq, not_false_eq_true, qb_in, qkW, qmW, qnW, true_and, and_true, or_self, true_or, or_true, and_self]; done) | (simp only [K_37 hK, hv, qTv_37, ne_eq, Int.reduceEq, not_false_eq_true, qb_in, qkW, qmW, qnW, true_and, and_true, or_self, true_or, or_true, and_self]; omega)) only [b206_0, b206_5, m206_12, b206_17, b206_21, m206_22, b206_33, b206_37, b206_38, b206_47, m206_50, b206_53, b206_59, b206_60, b206_69, b206_75, b206_78, b206_79, b206_88, b206_91, b206_108, b206_111, b206_114, b206_118, b206_126, b206_133, m206_136, b206_139, b206_143, b206_144, b206_159, b206_173, b206_176, b206_183, b206_187, qcall_l, qcall_r, qretn_l, qJ_s, qJ_n, qV0, qEx, ↓qif0, ↓zchk_pos, ↓reduceIte, qput, qWW, qmW, qkW, qnW, K_37 hK, g, r_isDigit, r_isBig, qb_n f3, qb_n f2, qb_T, qb_F, qu1, Int.reduceEq, q32]
  · have f3 : ¬ qdg (qsg t n k) := by omega
    by_cases h8 : 1 < e - k
    · have f1 := hc2 (k + 1) (by omega) (by omega)
      have f2 : ¬ qbg (qsg t n (k + 1)) := by omega
      simp (config := { maxSteps := 2000000 }) (disch := first | omega | (simp only [K_37 hK, hv, qTv_37, ne_eq, Int.reduceEq, not_false_eq_true, qb_in, qkW, qmW, qnW, true_and, and_true, or_self, true_or, or_true, and_self]; done) | (simp only [K_37 hK, hv, qTv_37, ne_eq, Int.reduceEq, not_false_eq_true, qb_in, qkW, qmW, qnW, true_and, and_true, or_self, true_or, or_true, and_self]; omega)) only [b206_0, b206_5, m206_12, b206_17, b206_21, m206_22, b206_33, b206_37, b206_38, b206_47, m206_50, b206_53, b206_59, b206_60, b206_69, b206_75, b206_78, b206_79, b206_88, b206_91, b206_108, b206_111, b206_114, b206_118, b206_126, b206_133, m206_136, b206_139, b206_143, b206_144, b206_159, b206_173, b206_176, b206_183, b206_187, qcall_l, qcall_r, qretn_l, qJ_s, qJ_n, qV0, qEx, ↓qif0, ↓zchk_pos, ↓reduceIte, qput, qWW, qmW, qkW, qnW, K_37 hK, g, r_isDigit, r_isBig, qb_n f3, qb_p hc1, qb_n f2, if_pos h8, qb_T, qb_F, qu1, Int.reduceEq, q32]
    · simp (config := { maxSteps := 2000000 }) (disch := first | omega | (simp only [K_37 hK, hv, qTv_37, ne_eq, Int.reduceEq, not_false_eq_true, qb_in, qkW, qmW, qnW, true_and, and_true, or_self, true_or, or_true, and_self]; done) | (simp only [K_37 hK, hv, qTv_37, ne_eq, Int.reduceEq, not_false_eq_true, qb_in, qkW, qmW, qnW, true_and, and_true, or_self, true_or, or_true, and_self]; omega)) only [b206_0, b206_5, m206_12, b206_17, b206_21, m206_22, b206_33, b206_37, b206_38, b206_47, m206_50, b206_53, b206_59, b206_60, b206_69, b206_75, b206_78, b206_79, b206_88, b206_91, b206_108, b206_111, b206_114, b206_118, b206_126, b206_133, m206_136, b206_139, b206_143, b206_144, b206_159, b206_173, b206_176, b206_183, b206_187, qcall_l, qcall_r, qretn_l, qJ_s, qJ_n, qV0, qEx, ↓qif0, ↓zchk_pos, ↓reduceIte, qput, qWW, qmW, qkW, qnW, K_37 hK, g, r_isDigit, r_isBig, qb_n f3, qb_p hc1, if_neg h8, qb_T, qb_F, qu1, Int.reduceEq, q32]
  · have f1 := hc k (by omega) (by omega)
    have f2 := hc (k + 1) (by omega) (by omega)
    have f3 : ¬ qdg (qsg t n k) := by omega
    simp (config := { maxSteps := 2000000 }) (disch := first | omega | (simp only [K_37 hK, hv, qTv_37, ne_eq, Int.reduceEq, not_false_eq_true, qb_in, qkW, qmW, qnW, true_and, and_true, or_self, true_or, or_true, and_self]; done) | (simp only [K_37 hK, hv, qTv_37, ne_eq, Int.reduceEq, not_false_eq_true, qb_in, qkW, qmW, qnW, true_and, and_true, or_self, true_or, or_true, and_self]; omega)) only [b206_0, b206_5, m206_12, b206_17, b206_21, m206_22, b206_33, b206_37, b206_38, b206_47, m206_50, b206_53, b206_59, b206_60, b206_69, b206_75, b206_78, b206_79, b206_88, b206_91, b206_108, b206_111, b206_114, b206_118, b206_126, b206_133, m206_136, b206_139, b206_143, b206_144, b206_159, b206_173, b206_176, b206_183, b206_187, qcall_l, qcall_r, qretn_l, qJ_s, qJ_n, qV0, qEx, ↓qif0, ↓zchk_pos, ↓reduceIte, qput, qWW, qmW, qkW, qnW, K_37 hK, g, r_isDigit, r_isBig, qb_n f3, qb_p f1, qb_p f2, if_pos (show 1 < e - k by omega), qb_T, qb_F, qu1, Int.reduceEq, q32]
theorem r_tkC (d : Nat) (S : zS) (h : 4 ≤ d) (m : Int → Int → Int) (t : Int → Int) (n : Int) (hn : n ≤ 60) (hr : ∀ i, 0 ≤ i → i < n → 0 ≤ t i ∧ t i < 65536) (hv : qTv (qW S m) t n) (k e E l : Int) (h0 : 0 ≤ k) (h9 : k ≤ 61) (hl : l = e - k) (hl2 : l ≤ 10) (p1 : m 37 35 = 64) (p2 : m 37 36 = l) : ∀ (f : Nat) (j : Int), 0 ≤ j → j + f = l →
    zF_206 d 150 [vr 37, vu, vi E, vi k, vu, vi j] [] (qW S (qov m 64 (fun x => qsl (qsg t n (k + x))) j)) = zF_206 d 183 [vr 37, vu, vi E, vi k, vu, vi l] [] (qW S (qov m 64 (fun x => qsl (qsg t n (k + x))) l)) := by
  have hK : qK S := hv.1
  have g := fun d T i h1 h2 h3 => v_signAt d T i t n hn hr h1 h2 h3
  have o1 : ∀ j, qov m 64 (fun x => qsl (qsg t n (k + x))) j 37 = m 37 := fun j => qov_o _ _ _ _ _ (by decide)
  have hv2 : ∀ j, qTv (qW S (qov m 64 (fun x => qsl (qsg t n (k + x))) j)) t n := fun j => by
    rw [qTv_ov _ _ _ _ _ _ _ (by decide) (by decide)]
    exact hv
  have hr2 : ∀ j, 0 ≤ j → 0 ≤ qsg t n j ∧ qsg t n j < 65536 := fun j hj => by
    unfold qsg
    split
    · exact hr j hj (by assumption)
    · omega
  intro f
  induction f with
  | zero =>
    intro j h1 h2
    rw [b206_150, show j = l by omega]
    simp (config := { maxSteps := 2000000 }) (disch := first | omega | (simp only [K_37 hK, qb_in, qkW, qmW, qnW, true_and, and_true, or_self, true_or, or_true, and_self]; done) | (simp only [K_37 hK, qb_in, qkW, qmW, qnW, true_and, and_true, or_self, true_or, or_true, and_self]; omega)) only [b206_0, b206_5, m206_12, b206_17, b206_21, m206_22, b206_33, b206_37, b206_38, b206_47, m206_50, b206_53, b206_59, b206_60, b206_69, b206_75, b206_78, b206_79, b206_88, b206_91, b206_108, b206_111, b206_114, b206_118, b206_126, b206_133, m206_136, b206_139, b206_143, b206_144, b206_159, b206_173, b206_176, b206_187, qcall_l, qcall_r, qretn_l, qJ_s, qJ_n, qV0, qEx, ↓qif0, ↓zchk_pos, ↓reduceIte, qput, qWW, qmW, qkW, qnW, K_37 hK, o1, p2, if_neg (show ¬ l < l by omega)]
  | succ f ih =>
    intro j h1 h2
    have hr3 := hr2 (k + j) (by omega)
    have e1 : qsl (qsg t n (k + j)) % 65536 = qsl (qsg t n (k + j)) := by
      unfold qsl
      split <;> omega
    have e2 := qov_s m 64 (fun x => qsl (qsg t n (k + x))) j _ h1 rfl
    rw [b206_150]
    simp (config := { maxSteps := 2000000 }) (disch := first | omega | (simp only [K_37 hK, K_64 hK, hv2, qb_in, qkW, qmW, qnW, true_and, and_true, or_self, true_or, or_true, and_self]; done) | (simp only [K_37 hK, K_64 hK, hv2, qb_in, qkW, qmW, qnW, true_and, and_true, or_self, true_or, or_true, and_self]; omega)) only [b206_0, b206_5, m206_12, b206_17, b206_21, m206_22, b206_33, b206_37, b206_38, b206_47, m206_50, b206_53, b206_59, b206_60, b206_69, b206_75, b206_78, b206_79, b206_88, b206_91, b206_108, b206_111, b206_114, b206_118, b206_126, b206_133, m206_136, b206_139, b206_143, b206_144, b206_159, b206_173, b206_176, b206_187, qcall_l, qcall_r, qretn_l, qJ_s, qJ_n, qV0, qEx, ↓qif0, ↓zchk_pos, ↓reduceIte, qput, qWW, qmW, qkW, qnW, K_37 hK, o1, p1, p2, if_pos (show j < l by omega), g, r_small, q32, e1, e2]
    exact ih (j + 1) (by omega) (by omega)
def qTk (m : Int → Int → Int) (st mk dg l gr : Int) (its : Int → Int) (pa : Int) : Int → Int → Int :=
  qu (qov (qu (qu (qu (qu (qu m 37 32 st) 37 37 mk) 37 33 dg) 37 36 l) 37 34 gr) 64 its l) 37 38 pa
def qpts (m : Int → Int → Int) (dg l : Int) (its : Int → Int) : Int := qfp (m 37 12) dg l (m 47) (m 46) (m 48) its ((m 37 12).toNat + 1) 0 0
theorem r_findsParts (d : Nat) (S : zS) (h : 1 ≤ d) (hK : qK S) (hP : qP (zm S)) (hn : 0 ≤ zm S 37 36 ∧ zm S 37 36 ≤ 10) (hd : 0 ≤ zm S 37 12 ∧ zm S 37 12 ≤ 12) : zD d 207 [vr 37] S = some (.inl none, qW S (qu (zm S) 37 38 (qpts (zm S) (zm S 37 33) (zm S 37 36) (zm S 64)))) := by
  obtain ⟨e, rfl, -⟩ := qd h
  have hl := r_fpLoop e S hK (zm S 37 12) (zm S 37 33) (zm S 37 36) (zm S 47) (zm S 46) (zm S 48) (zm S 64) hn hd.2 ((zm S 37 12).toNat + 1) 0 0 (qu (zm S) 37 38 0) vu vu (by omega) (by omega) hd.1 (fun j hj => qu_i _ _ _ _ _ hj) (fun a ha => qu_o _ _ _ _ _ ha) (qu_s _ _ _ _) rfl rfl rfl (P_37_13 hP) (P_37_35 hP) (P_37_14 hP) (P_37_15 hP) rfl rfl rfl rfl
  have f1 : ∀ v w, qu (qu (zm S) 37 38 v) 37 38 w = qu (zm S) 37 38 w := fun v w => by
    funext x i
    unfold qu
    by_cases hx : x = 37
    · by_cases hi : i = 38
      · rw [if_pos hx, if_pos hi, if_pos hx, if_pos hi]
      · rw [if_pos hx, if_neg hi, if_pos hx, if_neg hi, if_pos hx, if_neg hi]
    · rw [if_neg hx, if_neg hx, if_neg hx]
  simp (config := { maxSteps := 2000000 }) (disch := first | omega | (simp only [K_37 hK, qb_in, qkW, qmW, qnW, true_and, and_true, or_self, true_or, or_true, and_self]; done) | (simp only [K_37 hK, qb_in, qkW, qmW, qnW, true_and, and_true, or_self, true_or, or_true, and_self]; omega)) only [zD_207, b207_0, b207_15, m207_22, b207_35, b207_39, b207_40, b207_51, b207_55, m207_70, b207_75, b207_79, b207_80, b207_87, b207_92, b207_101, b207_105, b207_114, qcall_l, qcall_r, qretn_l, qJ_s, qJ_n, qV0, qEx, ↓qif0, ↓zchk_pos, ↓reduceIte, qput, qWW, qmW, qkW, qnW, K_37 hK, hl, f1]
  rfl
