/-! Days, pins, readers, sheets. -/
theorem qKs_w (S : zS) (m : Int → Int → Int) (h : m 1 = zm S 1) : qKs S (qW S m) := ⟨h, fun _ _ => rfl⟩
theorem q_day (d : Nat) (S : zS) (Q : zS → Prop) (h : 1 ≤ d) (hK : qK S) (h13 : zm S 3 13 = zm S 37 3) (hQ : Q (qW S (qu (zm S) 37 0 0))) : qUn0 Q S (zD d 147 [vr 3] S) (zD d 301 [vr 37]) := by
  obtain ⟨e, rfl, -⟩ := qd h
  refine ⟨zm S 37 3, S, qW S (qu (zm S) 37 0 0), ?_, qKs_r S, ?_, qKs_w S _ (qu_o _ _ _ _ _ (by decide)), hQ⟩
  · simp (config := { maxSteps := 2000000 }) (disch := first | omega | (simp only [K_3 hK, qb_in, qkW, qmW, qnW, true_and, and_true, or_self, true_or, or_true, and_self]; done) | (simp only [K_3 hK, qb_in, qkW, qmW, qnW, true_and, and_true, or_self, true_or, or_true, and_self]; omega)) only [zD_147, b147_0, qcall_l, qcall_r, qretn_l, qJ_s, qJ_n, qV0, qEx, ↓qif0, ↓zchk_pos, ↓reduceIte, qput, qWW, qmW, qkW, qnW, K_3 hK, h13]
  · have e3 : qu (zm S) 37 0 0 37 3 = zm S 37 3 := qu_i _ _ _ _ _ (by decide)
    simp (config := { maxSteps := 2000000 }) (disch := first | omega | (simp only [K_37 hK, qb_in, qkW, qmW, qnW, true_and, and_true, or_self, true_or, or_true, and_self]; done) | (simp only [K_37 hK, qb_in, qkW, qmW, qnW, true_and, and_true, or_self, true_or, or_true, and_self]; omega)) only [zD_301, b301_0, qcall_l, qcall_r, qretn_l, qJ_s, qJ_n, qV0, qEx, ↓qif0, ↓zchk_pos, ↓reduceIte, qput, qWW, qmW, qkW, qnW, K_37 hK, e3]
theorem q_sheets0 (d : Nat) (S : zS) (Q : zS → Prop) (h : 1 ≤ d) (hK : qK S) (h9 : zm S 3 9 = 0) (h73 : zm S 37 73 = 0) (hQ : Q (qW S (qu (zm S) 37 0 0))) : qUn0 Q S (zD d 140 [vr 3] S) (zD d 288 [vr 37]) := by
  obtain ⟨e, rfl, -⟩ := qd h
  refine ⟨0, S, qW S (qu (zm S) 37 0 0), ?_, qKs_r S, ?_, qKs_w S _ (qu_o _ _ _ _ _ (by decide)), hQ⟩
  · simp (config := { maxSteps := 2000000 }) (disch := first | omega | (simp only [qb_in, qkW, qmW, qnW, true_and, and_true, or_self, true_or, or_true, and_self]; done) | (simp only [qb_in, qkW, qmW, qnW, true_and, and_true, or_self, true_or, or_true, and_self]; omega)) only [zD_140, b140_0, b140_12, b140_22, b140_30, qcall_l, qcall_r, qretn_l, qJ_s, qJ_n, qV0, qEx, ↓qif0, ↓zchk_pos, ↓reduceIte, qput, qWW, qmW, qkW, qnW]
    rw [b140_4]
    simp (config := { maxSteps := 2000000 }) (disch := first | omega | (simp only [K_3 hK, qb_in, qkW, qmW, qnW, true_and, and_true, or_self, true_or, or_true, and_self]; done) | (simp only [K_3 hK, qb_in, qkW, qmW, qnW, true_and, and_true, or_self, true_or, or_true, and_self]; omega)) only [b140_0, b140_12, b140_22, b140_30, qcall_l, qcall_r, qretn_l, qJ_s, qJ_n, qV0, qEx, ↓qif0, ↓zchk_pos, ↓reduceIte, qput, qWW, qmW, qkW, qnW, K_3 hK, h9, Int.lt_irrefl]
  · have e3 : qu (zm S) 37 0 0 37 73 = 0 := by rw [qu_i _ _ _ _ _ (by decide), h73]
    simp (config := { maxSteps := 2000000 }) (disch := first | omega | (simp only [K_37 hK, qb_in, qkW, qmW, qnW, true_and, and_true, or_self, true_or, or_true, and_self]; done) | (simp only [K_37 hK, qb_in, qkW, qmW, qnW, true_and, and_true, or_self, true_or, or_true, and_self]; omega)) only [zD_288, b288_0, qcall_l, qcall_r, qretn_l, qJ_s, qJ_n, qV0, qEx, ↓qif0, ↓zchk_pos, ↓reduceIte, qput, qWW, qmW, qkW, qnW, K_37 hK, e3]
/-- the pins of both -/
def qYn (S : zS) : Prop := ∀ e p, 0 ≤ e → e < 3 → 0 ≤ p → p < 6 → zm S (10 + e) p = zm S 81 (6 * e + p) ∧ 0 ≤ zm S 81 (6 * e + p) ∧ zm S 81 (6 * e + p) ≤ 100000
theorem K_pin {S : zS} (hK : qK S) {c : Int} (hc : 0 ≤ c ∧ c < 3) : zk S (10 + c) = (0, 6) := by
  have : c = 0 ∨ c = 1 ∨ c = 2 := by omega
  rcases this with rfl | rfl | rfl
  · exact K_10 hK
  · exact K_11 hK
  · exact K_12 hK
theorem P_pin {m : Int → Int → Int} (hP : qP m) {c : Int} (hc : 0 ≤ c ∧ c < 3) : m 9 c = 10 + c := by
  have : c = 0 ∨ c = 1 ∨ c = 2 := by omega
  rcases this with rfl | rfl | rfl
  · exact P_9_0 hP
  · exact P_9_1 hP
  · exact P_9_2 hP
theorem q_renew (d : Nat) (S : zS) (c p t : Int) (Q : zS → Prop) (h : 4 ≤ d) (hK : qK S) (hP : qP (zm S)) (hn : qYn S) (hQ0 : ∀ v, Q (zbump (qW S (qu (zm S) 37 0 v)))) (hQ : ∀ o, 0 ≤ c → c < 3 → 0 ≤ p → p < 6 → 1 ≤ t → t ≤ 100000 → Q (qW S (qu (qu (qu (qu (zm S) (10 + c) p t) 102 0 o) 37 0 0) 81 (6 * c + p) t))) :
    qUn vi qid Q S (zD d 136 [vr 3, vi c, vi p, vi t] S) (zD d 275 [vr 37, vi c, vi p, vi t]) qpsD := by
  obtain ⟨e, rfl, h1⟩ := qd h
  have hKb : qK (zbump S) := hK
  by_cases c1 : 0 ≤ c ∧ c < 3
  · by_cases c2 : 0 ≤ p ∧ p < 6
    · by_cases c3 : 1 ≤ t ∧ t ≤ 100000
      · obtain ⟨g1, g2⟩ := hn c p c1.1 c1.2 c2.1 c2.2
        have kp := K_pin hK c1
        have pp := P_pin hP c1
        refine Or.inl ⟨zm S 81 (6 * c + p), qW S (qu (zm S) (10 + c) p t), ?_, qKs_w S _ (qu_o _ _ _ _ _ (by omega)), ?_⟩
        · simp (config := { maxSteps := 2000000 }) (disch := first | omega | (simp only [K_3 hK, K_9 hK, P_3_7 hP, K_9 hK, P_3_7 hP, kp, pp, qb_in, qkW, qmW, qnW, true_and, and_true, or_self, true_or, or_true, and_self]; done) | (simp only [K_3 hK, K_9 hK, P_3_7 hP, K_9 hK, P_3_7 hP, kp, pp, qb_in, qkW, qmW, qnW, true_and, and_true, or_self, true_or, or_true, and_self]; omega)) only [zD_136, b136_0, b136_4, b136_9, b136_13, b136_19, b136_30, b136_35, b136_42, b136_53, b136_68, qcall_l, qcall_r, qretn_l, qJ_s, qJ_n, qV0, qEx, ↓qif0, ↓zchk_pos, ↓reduceIte, qput, qWW, qmW, qkW, qnW, K_3 hK, K_9 hK, P_3_7 hP, K_9 hK, P_3_7 hP, kp, pp, g1, if_neg (show ¬ c < 0 by omega), if_pos c1.2, if_neg (show ¬ p < 0 by omega), if_pos c2.2, if_neg (show ¬ t < 1 by omega), if_neg (show ¬ 100000 < t by omega)]
        · refine ⟨_, ?_, ?_, ?_, ?_, hQ (qid (zm S 81 (6 * c + p))) c1.1 c1.2 c2.1 c2.2 c3.1 c3.2⟩
          · obtain ⟨M, hM⟩ : ∃ M, qu (qu (zm S) (10 + c) p t) 102 0 (qid (zm S 81 (6 * c + p))) = M := ⟨_, rfl⟩
            have hq : qo (qW S (qu (zm S) (10 + c) p t)) (qid (zm S 81 (6 * c + p))) = qW S M := by rw [← hM]; rfl
            rw [hq, hM]
            have m64 : M 37 64 = 81 := by rw [← hM, qu_o _ _ _ _ _ (by decide), qu_o _ _ _ _ _ (by omega)]; exact P_37_64 hP
            have m81 : M 81 = zm S 81 := by rw [← hM, qu_o _ _ _ _ _ (by decide), qu_o _ _ _ _ _ (by omega)]
            have n64 : qu M 37 0 0 37 64 = 81 := by rw [qu_i _ _ _ _ _ (by decide), m64]
            have n81 : qu M 37 0 0 81 = zm S 81 := by rw [qu_o _ _ _ _ _ (by decide), m81]
            have ie := r_isEmbosser e (qW S M) c (by omega)
            rw [qb_p (show 0 ≤ c ∧ c ≤ 2 by omega)] at ie
            have i2 := r_in e p 0 5 (qW S M) (by omega)
            rw [qb_p (show 0 ≤ p ∧ p ≤ 5 by omega)] at i2
            have i3 := r_in e t 1 100000 (qW S M) (by omega)
            rw [qb_p c3] at i3
            have hd := r_holds e (qW S M) 0 (by omega) hK
            rw [qb_p rfl] at hd
            have hd : zD e 182 [vr 37, vi 0] (qW S M) = some (.inl (some (vi 1)), qW S (qu M 37 0 0)) := hd
            simp (config := { maxSteps := 2000000 }) (disch := first | omega | (simp only [K_37 hK, K_81 hK, n64, qb_in, qkW, qmW, qnW, true_and, and_true, or_self, true_or, or_true, and_self]; done) | (simp only [K_37 hK, K_81 hK, n64, qb_in, qkW, qmW, qnW, true_and, and_true, or_self, true_or, or_true, and_self]; omega)) only [zD_275, b275_0, b275_4, b275_7, b275_13, b275_16, b275_20, b275_21, b275_29, b275_33, b275_41, b275_44, b275_48, b275_49, b275_52, b275_55, b275_57, b275_71, qcall_l, qcall_r, qretn_l, qJ_s, qJ_n, qV0, qEx, ↓qif0, ↓zchk_pos, ↓reduceIte, qput, qWW, qmW, qkW, qnW, K_37 hK, K_81 hK, ie, i2, i3, hd, n64, n81, q32, Int.reduceEq]
          · exact qKs_w S _ (by rw [qu_o _ _ _ _ _ (by decide), qu_o _ _ _ _ _ (by decide), qu_o _ _ _ _ _ (by decide), qu_o _ _ _ _ _ (by omega)])
          · show qu (qu (qu (qu (zm S) (10 + c) p t) 102 0 (qid (zm S 81 (6 * c + p)))) 37 0 0) 81 (6 * c + p) t 37 0 = 0
            rw [qu_o _ _ _ _ _ (by decide), qu_s]
          · show qu (qu (qu (qu (zm S) (10 + c) p t) 102 0 (qid (zm S 81 (6 * c + p)))) 37 0 0) 81 (6 * c + p) t 102 0 = _
            rw [qu_o _ _ _ _ _ (by decide), qu_o _ _ _ _ _ (by decide), qu_s]
      · refine qUn_no ⟨0, ?_, ?_, by decide⟩ hQ0
        · by_cases c4 : t < 1
          · simp (config := { maxSteps := 2000000 }) (disch := first | omega | (simp only [qb_in, qkW, qmW, qnW, true_and, and_true, or_self, true_or, or_true, and_self]; done) | (simp only [qb_in, qkW, qmW, qnW, true_and, and_true, or_self, true_or, or_true, and_self]; omega)) only [zD_136, b136_0, b136_4, b136_9, b136_13, b136_19, b136_30, b136_35, b136_42, b136_53, b136_68, qcall_l, qcall_r, qretn_l, qJ_s, qJ_n, qV0, qEx, ↓qif0, ↓zchk_pos, ↓reduceIte, qput, qWW, qmW, qkW, qnW, if_neg (show ¬ c < 0 by omega), if_pos c1.2, if_neg (show ¬ p < 0 by omega), if_pos c2.2, if_pos c4]
          · simp (config := { maxSteps := 2000000 }) (disch := first | omega | (simp only [qb_in, qkW, qmW, qnW, true_and, and_true, or_self, true_or, or_true, and_self]; done) | (simp only [qb_in, qkW, qmW, qnW, true_and, and_true, or_self, true_or, or_true, and_self]; omega)) only [zD_136, b136_0, b136_4, b136_9, b136_13, b136_19, b136_30, b136_35, b136_42, b136_53, b136_68, qcall_l, qcall_r, qretn_l, qJ_s, qJ_n, qV0, qEx, ↓qif0, ↓zchk_pos, ↓reduceIte, qput, qWW, qmW, qkW, qnW, if_neg (show ¬ c < 0 by omega), if_pos c1.2, if_neg (show ¬ p < 0 by omega), if_pos c2.2, if_neg c4, if_pos (show 100000 < t by omega)]
        · have ie := r_isEmbosser e (zbump S) c (by omega)
          rw [qb_p (show 0 ≤ c ∧ c ≤ 2 by omega)] at ie
          have i2 := r_in e p 0 5 (zbump S) (by omega)
          rw [qb_p (show 0 ≤ p ∧ p ≤ 5 by omega)] at i2
          have i3 := r_in e t 1 100000 (zbump S) (by omega)
          rw [qb_n c3] at i3
          have hd := r_refuse e S 2 (by omega) hK (by decide)
          simp (config := { maxSteps := 2000000 }) (disch := first | omega | (simp only [K_37 hKb, qb_in, qkW, qmW, qnW, true_and, and_true, or_self, true_or, or_true, and_self]; done) | (simp only [K_37 hKb, qb_in, qkW, qmW, qnW, true_and, and_true, or_self, true_or, or_true, and_self]; omega)) only [zD_275, b275_0, b275_4, b275_7, b275_13, b275_16, b275_20, b275_21, b275_29, b275_33, b275_41, b275_44, b275_48, b275_49, b275_52, b275_55, b275_57, b275_71, qcall_l, qcall_r, qretn_l, qJ_s, qJ_n, qV0, qEx, ↓qif0, ↓zchk_pos, ↓reduceIte, qput, qWW, qmW, qkW, qnW, K_37 hKb, ie, i2, i3, hd, Int.reduceEq]
          rfl
    · refine qUn_no ⟨2, ?_, ?_, by decide⟩ hQ0
      · by_cases c4 : p < 0
        · simp (config := { maxSteps := 2000000 }) (disch := first | omega | (simp only [qb_in, qkW, qmW, qnW, true_and, and_true, or_self, true_or, or_true, and_self]; done) | (simp only [qb_in, qkW, qmW, qnW, true_and, and_true, or_self, true_or, or_true, and_self]; omega)) only [zD_136, b136_0, b136_4, b136_9, b136_13, b136_19, b136_30, b136_35, b136_42, b136_53, b136_68, qcall_l, qcall_r, qretn_l, qJ_s, qJ_n, qV0, qEx, ↓qif0, ↓zchk_pos, ↓reduceIte, qput, qWW, qmW, qkW, qnW, if_neg (show ¬ c < 0 by omega), if_pos c1.2, if_pos c4]
        · simp (config := { maxSteps := 2000000 }) (disch := first | omega | (simp only [qb_in, qkW, qmW, qnW, true_and, and_true, or_self, true_or, or_true, and_self]; done) | (simp only [qb_in, qkW, qmW, qnW, true_and, and_true, or_self, true_or, or_true, and_self]; omega)) only [zD_136, b136_0, b136_4, b136_9, b136_13, b136_19, b136_30, b136_35, b136_42, b136_53, b136_68, qcall_l, qcall_r, qretn_l, qJ_s, qJ_n, qV0, qEx, ↓qif0, ↓zchk_pos, ↓reduceIte, qput, qWW, qmW, qkW, qnW, if_neg (show ¬ c < 0 by omega), if_pos c1.2, if_neg c4, if_neg (show ¬ p < 6 by omega)]
      · have ie := r_isEmbosser e (zbump S) c (by omega)
        rw [qb_p (show 0 ≤ c ∧ c ≤ 2 by omega)] at ie
        have i2 := r_in e p 0 5 (zbump S) (by omega)
        rw [qb_n (show ¬ (0 ≤ p ∧ p ≤ 5) by omega)] at i2
        have hd := r_refuse e S 1 (by omega) hK (by decide)
        simp (config := { maxSteps := 2000000 }) (disch := first | omega | (simp only [K_37 hKb, qb_in, qkW, qmW, qnW, true_and, and_true, or_self, true_or, or_true, and_self]; done) | (simp only [K_37 hKb, qb_in, qkW, qmW, qnW, true_and, and_true, or_self, true_or, or_true, and_self]; omega)) only [zD_275, b275_0, b275_4, b275_7, b275_13, b275_16, b275_20, b275_21, b275_29, b275_33, b275_41, b275_44, b275_48, b275_49, b275_52, b275_55, b275_57, b275_71, qcall_l, qcall_r, qretn_l, qJ_s, qJ_n, qV0, qEx, ↓qif0, ↓zchk_pos, ↓reduceIte, qput, qWW, qmW, qkW, qnW, K_37 hKb, ie, i2, hd, Int.reduceEq]
        rfl
  · refine qUn_no ⟨2, ?_, ?_, by decide⟩ hQ0
    · by_cases c4 : c < 0
      · simp (config := { maxSteps := 2000000 }) (disch := first | omega | (simp only [qb_in, qkW, qmW, qnW, true_and, and_true, or_self, true_or, or_true, and_self]; done) | (simp only [qb_in, qkW, qmW, qnW, true_and, and_true, or_self, true_or, or_true, and_self]; omega)) only [zD_136, b136_0, b136_4, b136_9, b136_13, b136_19, b136_30, b136_35, b136_42, b136_53, b136_68, qcall_l, qcall_r, qretn_l, qJ_s, qJ_n, qV0, qEx, ↓qif0, ↓zchk_pos, ↓reduceIte, qput, qWW, qmW, qkW, qnW, if_pos c4]
      · simp (config := { maxSteps := 2000000 }) (disch := first | omega | (simp only [qb_in, qkW, qmW, qnW, true_and, and_true, or_self, true_or, or_true, and_self]; done) | (simp only [qb_in, qkW, qmW, qnW, true_and, and_true, or_self, true_or, or_true, and_self]; omega)) only [zD_136, b136_0, b136_4, b136_9, b136_13, b136_19, b136_30, b136_35, b136_42, b136_53, b136_68, qcall_l, qcall_r, qretn_l, qJ_s, qJ_n, qV0, qEx, ↓qif0, ↓zchk_pos, ↓reduceIte, qput, qWW, qmW, qkW, qnW, if_neg c4, if_neg (show ¬ c < 3 by omega)]
    · have ie := r_isEmbosser e (zbump S) c (by omega)
      rw [qb_n (show ¬ (0 ≤ c ∧ c ≤ 2) by omega)] at ie
      have hd := r_refuse e S 1 (by omega) hK (by decide)
      simp (config := { maxSteps := 2000000 }) (disch := first | omega | (simp only [K_37 hKb, qb_in, qkW, qmW, qnW, true_and, and_true, or_self, true_or, or_true, and_self]; done) | (simp only [K_37 hKb, qb_in, qkW, qmW, qnW, true_and, and_true, or_self, true_or, or_true, and_self]; omega)) only [zD_275, b275_0, b275_4, b275_7, b275_13, b275_16, b275_20, b275_21, b275_29, b275_33, b275_41, b275_44, b275_48, b275_49, b275_52, b275_55, b275_57, b275_71, qcall_l, qcall_r, qretn_l, qJ_s, qJ_n, qV0, qEx, ↓qif0, ↓zchk_pos, ↓reduceIte, qput, qWW, qmW, qkW, qnW, K_37 hKb, ie, hd, Int.reduceEq]
      rfl
/-- a reader is made -/
theorem s_readerInit (d : Nat) (S : zS) (x g N : Int) (h : 1 ≤ d) (hx : zk S x = (27, 0)) (h0 : 0 < x ∧ x < N) (hN : (zn S : Int) = N) : zD d 80 [vr x, vi g] S = some (.inl none, qW (zalloc S 0 3 3) (qu (qu (qz (zm S) N) x 1 N) x 0 g)) := by
  obtain ⟨e, rfl, -⟩ := qd h
  subst hN
  simp (config := { maxSteps := 2000000 }) (disch := first | omega | (simp only [qal_n, hx, qal_o, qb_in, qkW, qmW, qnW, true_and, and_true, or_self, true_or, or_true, and_self]; done) | (simp only [qal_n, hx, qal_o, qb_in, qkW, qmW, qnW, true_and, and_true, or_self, true_or, or_true, and_self]; omega)) only [zD_80, b80_0, b80_11, qcall_l, qcall_r, qretn_l, qJ_s, qJ_n, qV0, qEx, ↓qif0, ↓zchk_pos, ↓reduceIte, qput, qWW, qmW, qkW, qnW, qalW, qal_n, qal_o, qal_m, hx, Int.reduceToNat]
theorem q_reader (d : Nat) (S : zS) (g : Int) (Q : zS → Prop) (h : 4 ≤ d) (hK : qK S) (hP : qP (zm S)) (hN : qNr S) (hn : 103 ≤ (zn S : Int)) (hQ0 : ∀ v, Q (zbump (qW S (qu (zm S) 37 0 v))))
    (hQ : ∀ (S2 : zS), 0 ≤ g → g ≤ 2 → zm S 37 76 < 6 → (zn S2 : Int) = zn S + 2 → zc S2 = zc S + 2 → zw S2 = zw S + 7 → (∀ x, zk S2 x = if x = (zn S : Int) + 1 then (0, 3) else if x = zn S then (27, 0) else zk S x) → (∀ x : Int, x < zn S → x ≠ 3 → x ≠ 14 → x ≠ 37 → x ≠ 90 → x ≠ 102 → zm S2 x = zm S x) → (∀ j, j ≠ 11 → zm S2 3 j = zm S 3 j) → zm S2 3 11 = zm S 37 76 + 1 → (∀ i, zm S2 14 i = if i = zm S 37 76 then (zn S : Int) else zm S 14 i) → (∀ j, j ≠ 0 → j ≠ 76 → zm S2 37 j = zm S 37 j) → zm S2 37 76 = zm S 37 76 + 1 → (∀ i, zm S2 90 i = if i = zm S 37 76 then g else zm S 90 i) → (zm S2 (zn S) 0 = g ∧ zm S2 (zn S) 1 = (zn S : Int) + 1 ∧ zm S2 (zn S) 2 = 0 ∧ zm S2 (zn S) 3 = 0) → (∀ j, zm S2 ((zn S : Int) + 1) j = 0) → Q S2) :
    qUn vi qid Q S (zD d 141 [vr 3, vi g] S) (zD d 290 [vr 37, vi g]) qpsA := by
  obtain ⟨e, rfl, h1⟩ := qd h
  have hKb : qK (zbump S) := hK
  obtain ⟨n1, n2⟩ := hN
  by_cases c1 : 0 ≤ g ∧ g ≤ 2
  · by_cases c2 : zm S 37 76 < 6
    · obtain ⟨N, hNn⟩ : ∃ N : Int, (zn S : Int) = N := ⟨_, rfl⟩
      obtain ⟨k, hk⟩ : ∃ k, zm S 37 76 = k := ⟨_, rfl⟩
      rw [hk] at n1 n2 c2
      have ci := s_readerInit e (zalloc S 27 0 4) N g (N + 1) (by omega) (qal_e _ _ _ _ hNn.symm) (by omega) (by rw [qal_n, hNn])
      obtain ⟨T, hT⟩ : ∃ T, qW (zalloc (zalloc S 27 0 4) 0 3 3) (qu (qu (qz (zm (zalloc S 27 0 4)) (N + 1)) N 1 (N + 1)) N 0 g) = T := ⟨_, rfl⟩
      rw [hT] at ci
      have kT : ∀ x, zk T x = if x = N + 1 then (0, 3) else if x = N then (27, 0) else zk S x := fun x => by
        rw [← hT, ← hNn]; rfl
      have mT : ∀ x, x < N → zm T x = zm S x := fun x hx => by
        rw [← hT, qmW, qu_o _ _ _ _ _ (by omega), qu_o _ _ _ _ _ (by omega), qz_o _ (by omega), qal_m, qz_o _ (by omega)]
      have mN0 : zm T N 0 = g := by rw [← hT, qmW, qu_s]
      have mN1 : zm T N 1 = N + 1 := by rw [← hT, qmW, qu_i _ _ _ _ _ (by decide), qu_s]
      have mN2 : ∀ j, j ≠ 0 → j ≠ 1 → zm T N j = 0 := fun j j0 j1 => by rw [← hT, qmW, qu_i _ _ _ _ _ j0, qu_i _ _ _ _ _ j1, qz_o _ (by omega), qal_m, hNn, qz_s]
      have mL : ∀ j, zm T (N + 1) j = 0 := fun j => by rw [← hT, qmW, qu_o _ _ _ _ _ (by omega), qu_o _ _ _ _ _ (by omega), qz_s]
      have nT : (zn T : Int) = N + 2 := by rw [← hT, qnW, qal_n, qal_n, hNn]; omega
      have zT : zc T = zc S + 2 := by rw [← hT]; rfl
      have wT : zw T = zw S + 7 := by rw [← hT]; rfl
      have hKT : qK T := qK_g hK (by omega) fun x hx => by rw [kT, if_neg (by omega), if_neg (by omega)]
      have kN : zk T N = (27, 0) := by rw [kT, if_neg (by omega), if_pos rfl]
      have e3 : zm T 3 = zm S 3 := mT 3 (by omega)
      have e311 : zm T 3 11 = k := by rw [e3]; exact n1
      have x3 : qu (zm T) 14 k N 3 = zm S 3 := by rw [qu_o _ _ _ _ _ (by decide), e3]
      have s11 : qu (qu (zm T) 14 k N) 3 11 (k + 1) 3 11 = k + 1 := qu_s _ _ _ _
      have p10 : zm S 3 10 = 14 := P_3_10 hP
      have cls : zD (e + 1) 141 [vr 3, vi g] S = some (.inl (some (vi k)), qW T (qu (qu (zm T) 14 k N) 3 11 (k + 1))) := by
        simp (config := { maxSteps := 2000000 }) (disch := first | omega | (simp only [K_3 hK, K_14 hKT, K_3 hKT, p10, n1, hNn, kN, x3, qb_in, qkW, qmW, qnW, true_and, and_true, or_self, true_or, or_true, and_self]; done) | (simp only [K_3 hK, K_14 hKT, K_3 hKT, p10, n1, hNn, kN, x3, qb_in, qkW, qmW, qnW, true_and, and_true, or_self, true_or, or_true, and_self]; omega)) only [zD_141, b141_0, b141_4, b141_9, b141_20, b141_29, b141_40, b141_56, b141_72, qcall_l, qcall_r, qretn_l, qJ_s, qJ_n, qV0, qEx, ↓qif0, ↓zchk_pos, ↓reduceIte, qput, qWW, qmW, qkW, qnW, K_3 hK, K_14 hKT, K_3 hKT, p10, n1, hNn, if_neg (show ¬ g < 0 by omega), if_neg (show ¬ 2 < g by omega), if_pos c2, ci, kN, x3, s11, q32, show k + 1 - 1 = k by omega]
      obtain ⟨M, hM⟩ : ∃ M, qu (qu (zm T) 14 k N) 3 11 (k + 1) = M := ⟨_, rfl⟩
      rw [hM] at cls
      have M14 : ∀ i, M 14 i = if i = k then N else zm S 14 i := fun i => by rw [← hM, qu_o _ _ _ _ _ (by decide), qu_row, mT 14 (by omega)]
      have M3 : ∀ j, j ≠ 11 → M 3 j = zm S 3 j := fun j hj => by rw [← hM, qu_i _ _ _ _ _ hj, x3]
      have M311 : M 3 11 = k + 1 := by rw [← hM, qu_s]
      have Mo : ∀ x, x ≠ 3 → x ≠ 14 → M x = zm T x := fun x x1 x2 => by rw [← hM, qu_o _ _ _ _ _ x1, qu_o _ _ _ _ _ x2]
      refine Or.inl ⟨k, qW T M, cls, ⟨by show M 1 = _; rw [Mo 1 (by decide) (by decide), mT 1 (by omega)], fun x hx => by rw [qkW, kT, if_neg (by omega), if_neg (by omega)]⟩, ?_⟩
      obtain ⟨M9, hM9⟩ : ∃ M9, qu M 102 0 (qid k) = M9 := ⟨_, rfl⟩
      have hq9 : qo (qW T M) (qid k) = qW T M9 := by rw [← hM9]; rfl
      rw [hq9]
      have g9 : ∀ x, x ≠ 102 → M9 x = M x := fun x hx => by rw [← hM9, qu_o _ _ _ _ _ hx]
      have M37 : M9 37 = zm S 37 := by rw [g9 37 (by decide), Mo 37 (by decide) (by decide), mT 37 (by omega)]
      have i1 := r_in e g 0 2 (qW T M9) (by omega)
      rw [qb_p c1] at i1
      have hd := r_holds e (qW T M9) 0 (by omega) hKT
      rw [qb_p rfl] at hd
      have hd : zD e 182 [vr 37, vi 0] (qW T M9) = some (.inl (some (vi 1)), qW T (qu M9 37 0 0)) := hd
      have a76 : M9 37 76 = k := by rw [M37, hk]
      have b76 : qu M9 37 0 0 37 76 = k := by rw [qu_i _ _ _ _ _ (by decide), a76]
      have b77 : qu M9 37 0 0 37 77 = 90 := by rw [qu_i _ _ _ _ _ (by decide), M37]; exact P_37_77 hP
      have d37 : qu (qu M9 37 0 0) 90 k g 37 = qu M9 37 0 0 37 := qu_o _ _ _ _ _ (by decide)
      have f76 : qu (qu (qu M9 37 0 0) 90 k g) 37 76 (k + 1) 37 76 = k + 1 := qu_s _ _ _ _
      have ref : zD (e + 1) 290 [vr 37, vi g] (qW T M9) = some (.inl (some (vi k)), qW T (qu (qu (qu M9 37 0 0) 90 k g) 37 76 (k + 1))) := by
        simp (config := { maxSteps := 2000000 }) (disch := first | omega | (simp only [K_37 hKT, K_90 hKT, a76, b76, b77, d37, qb_in, qkW, qmW, qnW, true_and, and_true, or_self, true_or, or_true, and_self]; done) | (simp only [K_37 hKT, K_90 hKT, a76, b76, b77, d37, qb_in, qkW, qmW, qnW, true_and, and_true, or_self, true_or, or_true, and_self]; omega)) only [zD_290, b290_0, b290_7, b290_10, b290_14, b290_23, b290_27, b290_28, b290_31, b290_34, b290_36, b290_52, qcall_l, qcall_r, qretn_l, qJ_s, qJ_n, qV0, qEx, ↓qif0, ↓zchk_pos, ↓reduceIte, qput, qWW, qmW, qkW, qnW, K_37 hKT, K_90 hKT, i1, a76, if_neg (show ¬ k = 6 by omega), hd, b76, b77, d37, f76, q32, Int.reduceEq, show k + 1 - 1 = k by omega]
      obtain ⟨m2, hm2⟩ : ∃ m2, qu (qu (qu M9 37 0 0) 90 k g) 37 76 (k + 1) = m2 := ⟨_, rfl⟩
      rw [hm2] at ref
      have fo : ∀ x, x ≠ 37 → x ≠ 90 → m2 x = M9 x := fun x x1 x2 => by rw [← hm2, qu_o _ _ _ _ _ x1, qu_o _ _ _ _ _ x2, qu_o _ _ _ _ _ x1]
      refine ⟨qW T m2, ref, ⟨?_, fun x hx => by rw [qkW, kT, if_neg (by omega), if_neg (by omega)]⟩, ?_, ?_, ?_⟩
      · show m2 1 = _
        rw [fo 1 (by decide) (by decide), g9 1 (by decide), Mo 1 (by decide) (by decide), mT 1 (by omega)]
      · show m2 37 0 = 0
        rw [← hm2, qu_i _ _ _ _ _ (by decide), d37, qu_s]
      · show m2 102 0 = _
        rw [fo 102 (by decide) (by decide), ← hM9, qu_s]
      · rw [hNn, hk] at hQ
        refine hQ (qW T m2) c1.1 c1.2 c2 nT zT wT kT (fun x x0 x1 x2 x3 x4 x5 => ?_) (fun j hj => ?_) ?_ (fun i => ?_) (fun j j0 j1 => ?_) ?_ (fun i => ?_) ⟨?_, ?_, ?_, ?_⟩ fun j => ?_
        · show m2 x = _
          rw [fo x x3 x4, g9 x x5, Mo x x1 x2, mT x x0]
        · show m2 3 j = _
          rw [fo 3 (by decide) (by decide), g9 3 (by decide), M3 j hj]
        · show m2 3 11 = _
          rw [fo 3 (by decide) (by decide), g9 3 (by decide), M311]
        · show m2 14 i = _
          rw [fo 14 (by decide) (by decide), g9 14 (by decide), M14]
        · show m2 37 j = _
          rw [← hm2, qu_i _ _ _ _ _ j1, d37, qu_i _ _ _ _ _ j0, M37]
        · show m2 37 76 = _
          rw [← hm2, qu_s]
        · show m2 90 i = _
          rw [← hm2, qu_o _ _ _ _ _ (by decide), qu_row, qu_o _ _ _ _ _ (by decide), g9 90 (by decide), Mo 90 (by decide) (by decide), mT 90 (by omega)]
        · show m2 N 0 = _
          rw [fo N (by omega) (by omega), g9 N (by omega), Mo N (by omega) (by omega), mN0]
        · show m2 N 1 = _
          rw [fo N (by omega) (by omega), g9 N (by omega), Mo N (by omega) (by omega), mN1]
        · show m2 N 2 = _
          rw [fo N (by omega) (by omega), g9 N (by omega), Mo N (by omega) (by omega), mN2 2 (by decide) (by decide)]
        · show m2 N 3 = _
          rw [fo N (by omega) (by omega), g9 N (by omega), Mo N (by omega) (by omega), mN2 3 (by decide) (by decide)]
        · show m2 (N + 1) j = _
          rw [fo (N + 1) (by omega) (by omega), g9 (N + 1) (by omega), Mo (N + 1) (by omega) (by omega), mL]
    · refine qUn_no ⟨1, ?_, ?_, by decide⟩ hQ0
      · simp (config := { maxSteps := 2000000 }) (disch := first | omega | (simp only [K_3 hK, qb_in, qkW, qmW, qnW, true_and, and_true, or_self, true_or, or_true, and_self]; done) | (simp only [K_3 hK, qb_in, qkW, qmW, qnW, true_and, and_true, or_self, true_or, or_true, and_self]; omega)) only [zD_141, b141_0, b141_4, b141_9, b141_20, b141_29, b141_40, b141_56, b141_72, qcall_l, qcall_r, qretn_l, qJ_s, qJ_n, qV0, qEx, ↓qif0, ↓zchk_pos, ↓reduceIte, qput, qWW, qmW, qkW, qnW, K_3 hK, n1, if_neg (show ¬ g < 0 by omega), if_neg (show ¬ 2 < g by omega), if_neg c2]
      · have i1 := r_in e g 0 2 (zbump S) (by omega)
        rw [qb_p c1] at i1
        have hd := r_refuse e S 2 (by omega) hK (by decide)
        have a76 : zm (zbump S) 37 76 = 6 := by show zm S 37 76 = 6; omega
        simp (config := { maxSteps := 2000000 }) (disch := first | omega | (simp only [K_37 hKb, a76, qb_in, qkW, qmW, qnW, true_and, and_true, or_self, true_or, or_true, and_self]; done) | (simp only [K_37 hKb, a76, qb_in, qkW, qmW, qnW, true_and, and_true, or_self, true_or, or_true, and_self]; omega)) only [zD_290, b290_0, b290_7, b290_10, b290_14, b290_23, b290_27, b290_28, b290_31, b290_34, b290_36, b290_52, qcall_l, qcall_r, qretn_l, qJ_s, qJ_n, qV0, qEx, ↓qif0, ↓zchk_pos, ↓reduceIte, qput, qWW, qmW, qkW, qnW, K_37 hKb, i1, a76, hd, Int.reduceEq]
        rfl
  · refine qUn_no ⟨0, ?_, ?_, by decide⟩ hQ0
    · by_cases c4 : g < 0
      · simp (config := { maxSteps := 2000000 }) (disch := first | omega | (simp only [qb_in, qkW, qmW, qnW, true_and, and_true, or_self, true_or, or_true, and_self]; done) | (simp only [qb_in, qkW, qmW, qnW, true_and, and_true, or_self, true_or, or_true, and_self]; omega)) only [zD_141, b141_0, b141_4, b141_9, b141_20, b141_29, b141_40, b141_56, b141_72, qcall_l, qcall_r, qretn_l, qJ_s, qJ_n, qV0, qEx, ↓qif0, ↓zchk_pos, ↓reduceIte, qput, qWW, qmW, qkW, qnW, if_pos c4]
      · simp (config := { maxSteps := 2000000 }) (disch := first | omega | (simp only [qb_in, qkW, qmW, qnW, true_and, and_true, or_self, true_or, or_true, and_self]; done) | (simp only [qb_in, qkW, qmW, qnW, true_and, and_true, or_self, true_or, or_true, and_self]; omega)) only [zD_141, b141_0, b141_4, b141_9, b141_20, b141_29, b141_40, b141_56, b141_72, qcall_l, qcall_r, qretn_l, qJ_s, qJ_n, qV0, qEx, ↓qif0, ↓zchk_pos, ↓reduceIte, qput, qWW, qmW, qkW, qnW, if_neg c4, if_pos (show 2 < g by omega)]
    · have i1 := r_in e g 0 2 (zbump S) (by omega)
      rw [qb_n c1] at i1
      have hd := r_refuse e S 1 (by omega) hK (by decide)
      simp (config := { maxSteps := 2000000 }) (disch := first | omega | (simp only [K_37 hKb, qb_in, qkW, qmW, qnW, true_and, and_true, or_self, true_or, or_true, and_self]; done) | (simp only [K_37 hKb, qb_in, qkW, qmW, qnW, true_and, and_true, or_self, true_or, or_true, and_self]; omega)) only [zD_290, b290_0, b290_7, b290_10, b290_14, b290_23, b290_27, b290_28, b290_31, b290_34, b290_36, b290_52, qcall_l, qcall_r, qretn_l, qJ_s, qJ_n, qV0, qEx, ↓qif0, ↓zchk_pos, ↓reduceIte, qput, qWW, qmW, qkW, qnW, K_37 hKb, i1, hd, Int.reduceEq]
      rfl
/-! Days go by in a house with no copies. -/
theorem s_sendCopies0 (d : Nat) (S : zS) (h : 1 ≤ d) (hK : qK S) (h9 : zm S 3 9 = 0) : zD d 170 [vr 3] S = some (.inl (some (vi 0)), S) := by
  obtain ⟨e, rfl, -⟩ := qd h
  simp (config := { maxSteps := 2000000 }) (disch := first | omega | (simp only [qb_in, qkW, qmW, qnW, true_and, and_true, or_self, true_or, or_true, and_self]; done) | (simp only [qb_in, qkW, qmW, qnW, true_and, and_true, or_self, true_or, or_true, and_self]; omega)) only [zD_170, b170_0, b170_12, b170_27, b170_35, b170_40, b170_43, b170_44, b170_52, b170_70, b170_73, b170_81, b170_99, b170_102, b170_108, qcall_l, qcall_r, qretn_l, qJ_s, qJ_n, qV0, qEx, ↓qif0, ↓zchk_pos, ↓reduceIte, qput, qWW, qmW, qkW, qnW]
  rw [b170_4]
  simp (config := { maxSteps := 2000000 }) (disch := first | omega | (simp only [K_3 hK, qb_in, qkW, qmW, qnW, true_and, and_true, or_self, true_or, or_true, and_self]; done) | (simp only [K_3 hK, qb_in, qkW, qmW, qnW, true_and, and_true, or_self, true_or, or_true, and_self]; omega)) only [b170_0, b170_12, b170_27, b170_35, b170_40, b170_43, b170_44, b170_52, b170_70, b170_73, b170_81, b170_99, b170_102, b170_108, qcall_l, qcall_r, qretn_l, qJ_s, qJ_n, qV0, qEx, ↓qif0, ↓zchk_pos, ↓reduceIte, qput, qWW, qmW, qkW, qnW, K_3 hK, h9, Int.lt_irrefl]
theorem qu_qu (m : Int → Int → Int) (a j v w : Int) : qu (qu m a j v) a j w = qu m a j w := by
  funext b i
  simp only [qu1]
  by_cases c1 : b = a
  · by_cases c2 : i = j
    · rw [if_pos c1, if_pos c2, if_pos c1, if_pos c2]
    · rw [if_pos c1, if_neg c2, if_pos c1, if_neg c2, if_pos c1, if_neg c2]
  · rw [if_neg c1, if_neg c1, if_neg c1]
theorem s_pass0 (e : Nat) (S : zS) (n t : Int) (he : 2 ≤ e) (hK : qK S) (h9 : zm S 3 9 = 0) (hn : 1 ≤ n ∧ n ≤ 100) (ht : 0 ≤ t ∧ t + n ≤ 1000) : ∀ (f i : Nat), (i : Int) + f = n → zF_146 e 49 [vr 3, vi n, vi 0, vi i] [] (qW S (qu (zm S) 3 13 (t + i))) = some (.inl (some (vi 0)), qW S (qu (zm S) 3 13 (t + n))) := by
  intro f
  induction f with
  | zero =>
    intro i hi
    rw [b146_49, show (i : Int) = n by omega]
    simp (config := { maxSteps := 2000000 }) (disch := first | omega | (simp only [qb_in, qkW, qmW, qnW, true_and, and_true, or_self, true_or, or_true, and_self]; done) | (simp only [qb_in, qkW, qmW, qnW, true_and, and_true, or_self, true_or, or_true, and_self]; omega)) only [b146_0, b146_5, b146_11, b146_22, b146_34, b146_45, b146_54, b146_69, b146_77, qcall_l, qcall_r, qretn_l, qJ_s, qJ_n, qV0, qEx, ↓qif0, ↓zchk_pos, ↓reduceIte, qput, qWW, qmW, qkW, qnW, Int.lt_irrefl]
  | succ f ih =>
    intro i hi
    have ih := ih (i + 1) (by omega)
    have g13 : qu (zm S) 3 13 (t + i) 3 13 = t + i := qu_s _ _ _ _
    have sc := s_sendCopies0 e (qW S (qu (zm S) 3 13 (t + ((i + 1 : Nat) : Int)))) (by omega) hK (by show qu (zm S) 3 13 (t + ((i + 1 : Nat) : Int)) 3 9 = 0; rw [qu_i _ _ _ _ _ (by decide), h9])
    have eq1 : qu (qu (zm S) 3 13 (t + i)) 3 13 (t + i + 1) = qu (zm S) 3 13 (t + ((i + 1 : Nat) : Int)) := by rw [qu_qu, show t + (i : Int) + 1 = t + ((i + 1 : Nat) : Int) by omega]
    rw [b146_49]
    simp (config := { maxSteps := 2000000 }) (disch := first | omega | (simp only [K_3 hK, qb_in, qkW, qmW, qnW, true_and, and_true, or_self, true_or, or_true, and_self]; done) | (simp only [K_3 hK, qb_in, qkW, qmW, qnW, true_and, and_true, or_self, true_or, or_true, and_self]; omega)) only [b146_0, b146_5, b146_11, b146_22, b146_34, b146_45, b146_54, b146_69, b146_77, qcall_l, qcall_r, qretn_l, qJ_s, qJ_n, qV0, qEx, ↓qif0, ↓zchk_pos, ↓reduceIte, qput, qWW, qmW, qkW, qnW, K_3 hK, if_pos (show (i : Int) < n by omega), g13, q32, eq1, sc, Int.add_zero]
    exact ih
theorem r_pass0 (e : Nat) (S : zS) (n t : Int) (he : 2 ≤ e) (hK : qK S) (h65 : zm S 37 65 = 0) (hn : 1 ≤ n ∧ n ≤ 100) (ht : 0 ≤ t ∧ t + n ≤ 1000) : ∀ (f i : Nat) (x4 : zV), (i : Int) + f = n → zF_300 e 44 [vr 37, vi n, vi 0, vi i, x4] [] (qW S (qu (zm S) 37 3 (t + i))) = some (.inl (some (vi 0)), qW S (qu (zm S) 37 3 (t + n))) := by
  intro f
  induction f with
  | zero =>
    intro i x4 hi
    rw [b300_44, show (i : Int) = n by omega]
    simp (config := { maxSteps := 2000000 }) (disch := first | omega | (simp only [qb_in, qkW, qmW, qnW, true_and, and_true, or_self, true_or, or_true, and_self]; done) | (simp only [qb_in, qkW, qmW, qnW, true_and, and_true, or_self, true_or, or_true, and_self]; omega)) only [b300_0, b300_8, b300_11, b300_15, b300_27, b300_31, b300_32, b300_35, b300_38, b300_40, b300_49, b300_71, b300_78, b300_86, b300_92, qcall_l, qcall_r, qretn_l, qJ_s, qJ_n, qV0, qEx, ↓qif0, ↓zchk_pos, ↓reduceIte, qput, qWW, qmW, qkW, qnW, Int.lt_irrefl]
  | succ f ih =>
    intro i x4 hi
    have ih := ih (i + 1) vu (by omega)
    have g3 : qu (zm S) 37 3 (t + i) 37 3 = t + i := qu_s _ _ _ _
    have eq1 : qu (qu (zm S) 37 3 (t + i)) 37 3 (t + i + 1) = qu (zm S) 37 3 (t + ((i + 1 : Nat) : Int)) := by rw [qu_qu, show t + (i : Int) + 1 = t + ((i + 1 : Nat) : Int) by omega]
    have g65 : qu (zm S) 37 3 (t + ((i + 1 : Nat) : Int)) 37 65 = 0 := by rw [qu_i _ _ _ _ _ (by decide), h65]
    have st : zF_300 e 62 [vr 37, vi n, vi 0, vi i, vi 0] [] (qW S (qu (zm S) 37 3 (t + ((i + 1 : Nat) : Int)))) = zF_300 e 44 [vr 37, vi n, vi 0, vi (i + 1), vu] [] (qW S (qu (zm S) 37 3 (t + ((i + 1 : Nat) : Int)))) := by
      rw [b300_62]
      simp (config := { maxSteps := 2000000 }) (disch := first | omega | (simp only [K_37 hK, g65, qb_in, qkW, qmW, qnW, true_and, and_true, or_self, true_or, or_true, and_self]; done) | (simp only [K_37 hK, g65, qb_in, qkW, qmW, qnW, true_and, and_true, or_self, true_or, or_true, and_self]; omega)) only [b300_0, b300_8, b300_11, b300_15, b300_27, b300_31, b300_32, b300_35, b300_38, b300_40, b300_49, b300_71, b300_78, b300_86, b300_92, qcall_l, qcall_r, qretn_l, qJ_s, qJ_n, qV0, qEx, ↓qif0, ↓zchk_pos, ↓reduceIte, qput, qWW, qmW, qkW, qnW, K_37 hK, g65, Int.lt_irrefl, q32]
    rw [b300_44]
    simp (config := { maxSteps := 2000000 }) (disch := first | omega | (simp only [K_37 hK, g3, qb_in, qkW, qmW, qnW, true_and, and_true, or_self, true_or, or_true, and_self]; done) | (simp only [K_37 hK, g3, qb_in, qkW, qmW, qnW, true_and, and_true, or_self, true_or, or_true, and_self]; omega)) only [b300_0, b300_8, b300_11, b300_15, b300_27, b300_31, b300_32, b300_35, b300_38, b300_40, b300_49, b300_71, b300_78, b300_86, b300_92, qcall_l, qcall_r, qretn_l, qJ_s, qJ_n, qV0, qEx, ↓qif0, ↓zchk_pos, ↓reduceIte, qput, qWW, qmW, qkW, qnW, K_37 hK, if_pos (show (i : Int) < n by omega), g3, q32, eq1, st]
    exact ih
theorem q_pass0 (d : Nat) (S : zS) (n : Int) (Q : zS → Prop) (h : 5 ≤ d) (hK : qK S) (hd0 : zm S 3 13 = 0) (hd1 : zm S 37 3 = 0) (h9 : zm S 3 9 = 0) (h65 : zm S 37 65 = 0) (hQ0 : ∀ v, Q (zbump (qW S (qu (zm S) 37 0 v)))) (hQ : ∀ m2, Q (qW S m2)) :
    qUn vi qid Q S (zD d 146 [vr 3, vi n] S) (zD d 300 [vr 37, vi n]) qpsA := by
  obtain ⟨e, rfl, h1⟩ := qd h
  have hKb : qK (zbump S) := hK
  by_cases c1 : 1 ≤ n ∧ n ≤ 100
  · have s0 : qW S (qu (zm S) 3 13 (0 + ((0 : Nat) : Int))) = S := by
      have : qu (zm S) 3 13 (0 + ((0 : Nat) : Int)) = zm S := by
        funext x j
        rw [qu1]
        split
        · next hx =>
          split
          · next hj => rw [hx, hj, hd0]; rfl
          · rfl
        · rfl
      rw [this]
      rfl
    have sp := s_pass0 e S n 0 (by omega) hK h9 c1 (by omega) n.toNat 0 (by omega)
    rw [s0] at sp
    have sp : zF_146 e 49 [vr 3, vi n, vi 0, vi 0] [] S = some (.inl (some (vi 0)), qW S (qu (zm S) 3 13 (0 + n))) := sp
    refine Or.inl ⟨0, qW S (qu (zm S) 3 13 (0 + n)), ?_, qKs_w S _ (qu_o _ _ _ _ _ (by decide)), ?_⟩
    · simp (config := { maxSteps := 2000000 }) (disch := first | omega | (simp only [K_3 hK, qb_in, qkW, qmW, qnW, true_and, and_true, or_self, true_or, or_true, and_self]; done) | (simp only [K_3 hK, qb_in, qkW, qmW, qnW, true_and, and_true, or_self, true_or, or_true, and_self]; omega)) only [zD_146, b146_0, b146_5, b146_11, b146_22, b146_34, b146_45, b146_54, b146_69, b146_77, qcall_l, qcall_r, qretn_l, qJ_s, qJ_n, qV0, qEx, ↓qif0, ↓zchk_pos, ↓reduceIte, qput, qWW, qmW, qkW, qnW, K_3 hK, hd0, if_neg (show ¬ n < 1 by omega), if_neg (show ¬ 100 < n by omega), q32, if_neg (show ¬ 1000 < 0 + n by omega)]
      exact sp
    · obtain ⟨M, hM⟩ : ∃ M, qu (qu (zm S) 3 13 (0 + n)) 102 0 (qid 0) = M := ⟨_, rfl⟩
      have hq : qo (qW S (qu (zm S) 3 13 (0 + n))) (qid 0) = qW S M := by rw [← hM]; rfl
      rw [hq]
      have m37 : M 37 = zm S 37 := by rw [← hM, qu_o _ _ _ _ _ (by decide), qu_o _ _ _ _ _ (by decide)]
      have M3 : M 37 3 = 0 := by rw [m37, hd1]
      have n3 : qu M 37 0 0 37 3 = 0 := by rw [qu_i _ _ _ _ _ (by decide), M3]
      have s1 : qW S (qu (qu M 37 0 0) 37 3 (0 + ((0 : Nat) : Int))) = qW S (qu M 37 0 0) := by
        have : qu (qu M 37 0 0) 37 3 (0 + ((0 : Nat) : Int)) = qu M 37 0 0 := by
          funext x j
          rw [qu1 (qu M 37 0 0)]
          split
          · next hx =>
            split
            · next hj => rw [hx, hj, n3]; rfl
            · rfl
          · rfl
        rw [this]
      have rp := r_pass0 e (qW S (qu M 37 0 0)) n 0 (by omega) hK (by show qu M 37 0 0 37 65 = 0; rw [qu_i _ _ _ _ _ (by decide), m37, h65]) c1 (by omega) n.toNat 0 vu (by omega)
      have rp : zF_300 e 44 [vr 37, vi n, vi 0, vi 0, vu] [] (qW S (qu (qu M 37 0 0) 37 3 (0 + ((0 : Nat) : Int)))) = some (.inl (some (vi 0)), qW S (qu (qu M 37 0 0) 37 3 (0 + n))) := rp
      rw [s1] at rp
      have i1 := r_in e n 1 100 (qW S M) (by omega)
      rw [qb_p c1] at i1
      have hd := r_holds e (qW S M) 0 (by omega) hK
      rw [qb_p rfl] at hd
      have hd : zD e 182 [vr 37, vi 0] (qW S M) = some (.inl (some (vi 1)), qW S (qu M 37 0 0)) := hd
      refine ⟨qW S (qu (qu M 37 0 0) 37 3 (0 + n)), ?_, ⟨?_, fun _ _ => rfl⟩, ?_, ?_, hQ _⟩
      · simp (config := { maxSteps := 2000000 }) (disch := first | omega | (simp only [K_37 hK, M3, qb_in, qkW, qmW, qnW, true_and, and_true, or_self, true_or, or_true, and_self]; done) | (simp only [K_37 hK, M3, qb_in, qkW, qmW, qnW, true_and, and_true, or_self, true_or, or_true, and_self]; omega)) only [zD_300, b300_0, b300_8, b300_11, b300_15, b300_27, b300_31, b300_32, b300_35, b300_38, b300_40, b300_49, b300_71, b300_78, b300_86, b300_92, qcall_l, qcall_r, qretn_l, qJ_s, qJ_n, qV0, qEx, ↓qif0, ↓zchk_pos, ↓reduceIte, qput, qWW, qmW, qkW, qnW, K_37 hK, i1, M3, q32, if_neg (show ¬ 1000 < 0 + n by omega), hd, Int.reduceEq]
        exact rp
      · show qu (qu M 37 0 0) 37 3 (0 + n) 1 = _
        rw [qu_o _ _ _ _ _ (by decide), qu_o _ _ _ _ _ (by decide), ← hM, qu_o _ _ _ _ _ (by decide), qu_o _ _ _ _ _ (by decide)]
      · show qu (qu M 37 0 0) 37 3 (0 + n) 37 0 = 0
        rw [qu_i _ _ _ _ _ (by decide), qu_s]
      · show qu (qu M 37 0 0) 37 3 (0 + n) 102 0 = _
        rw [qu_o _ _ _ _ _ (by decide), qu_o _ _ _ _ _ (by decide), ← hM, qu_s]
  · refine qUn_no ⟨0, ?_, ?_, by decide⟩ hQ0
    · by_cases c4 : n < 1
      · simp (config := { maxSteps := 2000000 }) (disch := first | omega | (simp only [qb_in, qkW, qmW, qnW, true_and, and_true, or_self, true_or, or_true, and_self]; done) | (simp only [qb_in, qkW, qmW, qnW, true_and, and_true, or_self, true_or, or_true, and_self]; omega)) only [zD_146, b146_0, b146_5, b146_11, b146_22, b146_34, b146_45, b146_54, b146_69, b146_77, qcall_l, qcall_r, qretn_l, qJ_s, qJ_n, qV0, qEx, ↓qif0, ↓zchk_pos, ↓reduceIte, qput, qWW, qmW, qkW, qnW, if_pos c4]
      · simp (config := { maxSteps := 2000000 }) (disch := first | omega | (simp only [qb_in, qkW, qmW, qnW, true_and, and_true, or_self, true_or, or_true, and_self]; done) | (simp only [qb_in, qkW, qmW, qnW, true_and, and_true, or_self, true_or, or_true, and_self]; omega)) only [zD_146, b146_0, b146_5, b146_11, b146_22, b146_34, b146_45, b146_54, b146_69, b146_77, qcall_l, qcall_r, qretn_l, qJ_s, qJ_n, qV0, qEx, ↓qif0, ↓zchk_pos, ↓reduceIte, qput, qWW, qmW, qkW, qnW, if_neg c4, if_pos (show 100 < n by omega)]
    · have i1 := r_in e n 1 100 (zbump S) (by omega)
      rw [qb_n c1] at i1
      have hd := r_refuse e S 1 (by omega) hK (by decide)
      simp (config := { maxSteps := 2000000 }) (disch := first | omega | (simp only [K_37 hKb, qb_in, qkW, qmW, qnW, true_and, and_true, or_self, true_or, or_true, and_self]; done) | (simp only [K_37 hKb, qb_in, qkW, qmW, qnW, true_and, and_true, or_self, true_or, or_true, and_self]; omega)) only [zD_300, b300_0, b300_8, b300_11, b300_15, b300_27, b300_31, b300_32, b300_35, b300_38, b300_40, b300_49, b300_71, b300_78, b300_86, b300_92, qcall_l, qcall_r, qretn_l, qJ_s, qJ_n, qV0, qEx, ↓qif0, ↓zchk_pos, ↓reduceIte, qput, qWW, qmW, qkW, qnW, K_37 hKb, i1, hd, Int.reduceEq]
      rfl
