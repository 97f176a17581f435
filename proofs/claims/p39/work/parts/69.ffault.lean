/-! Where a tape is no formula. -/
abbrev qjn (c : Int) : Prop := c = 43 ∨ c = 45 ∨ c = 46 ∨ c = 47 ∨ c = 94
/-- fault from a place on: open brackets, atoms, digits of the last number, whether an atom is due -/
def qfo (t : Int → Int) (n : Int) : Nat → Int → Int → Int → Int → Int → Int
  | 0, _, o, _, _, due => if due = 1 ∨ 0 < o then n else -1
  | f + 1, i, o, a, g, due => if due = 1 then (if t i = 40 then qfo t n f (i + 1) (o + 1) a g 1 else if (qdg (t i) ∨ qsm (t i)) ∧ a < 12 then qfo t n f (i + 1) o (a + 1) (if qdg (t i) then 1 else 0) 0 else i)
    else if qdg (t i) ∧ 0 < g ∧ g < 4 then qfo t n f (i + 1) o a (g + 1) 0 else if t i = 41 ∧ 0 < o then qfo t n f (i + 1) (o - 1) a 0 0 else if qjn (t i) then qfo t n f (i + 1) o a g 1 else i
def qff1 (t : Int → Int) (n : Int) : Int := qfo t n n.toNat 0 0 0 0 1
theorem qfo_A1 {t : Int → Int} {n i o a g : Int} {f : Nat} (h : t i = 40) : qfo t n (f + 1) i o a g 1 = qfo t n f (i + 1) (o + 1) a g 1 := by
  rw [qfo, if_pos rfl, if_pos h]
theorem qfo_A2 {t : Int → Int} {n i o a g : Int} {f : Nat} (h : qdg (t i)) (ha : a < 12) : qfo t n (f + 1) i o a g 1 = qfo t n f (i + 1) o (a + 1) 1 0 := by
  rw [qfo, if_pos rfl, if_neg (show ¬ t i = 40 by omega), if_pos (show (qdg (t i) ∨ qsm (t i)) ∧ a < 12 from ⟨Or.inl h, ha⟩), if_pos h]
theorem qfo_A3 {t : Int → Int} {n i o a g : Int} {f : Nat} (h : qsm (t i)) (ha : a < 12) : qfo t n (f + 1) i o a g 1 = qfo t n f (i + 1) o (a + 1) 0 0 := by
  rw [qfo, if_pos rfl, if_neg (show ¬ t i = 40 by omega), if_pos (show (qdg (t i) ∨ qsm (t i)) ∧ a < 12 from ⟨Or.inr h, ha⟩), if_neg (show ¬ qdg (t i) by omega)]
theorem qfo_A4 {t : Int → Int} {n i o a g : Int} {f : Nat} (h : t i ≠ 40) (ha : ¬ ((qdg (t i) ∨ qsm (t i)) ∧ a < 12)) : qfo t n (f + 1) i o a g 1 = i := by
  rw [qfo, if_pos rfl, if_neg h, if_neg ha]
theorem qfo_B1 {t : Int → Int} {n i o a g : Int} {f : Nat} (h : qdg (t i)) (hg : 0 < g ∧ g < 4) : qfo t n (f + 1) i o a g 0 = qfo t n f (i + 1) o a (g + 1) 0 := by
  rw [qfo, if_neg (show ¬ (0 : Int) = 1 by decide), if_pos (show qdg (t i) ∧ 0 < g ∧ g < 4 from ⟨h, hg⟩)]
theorem qfo_B2 {t : Int → Int} {n i o a g : Int} {f : Nat} (h : t i = 41) (ho : 0 < o) : qfo t n (f + 1) i o a g 0 = qfo t n f (i + 1) (o - 1) a 0 0 := by
  rw [qfo, if_neg (show ¬ (0 : Int) = 1 by decide), if_neg (show ¬ (qdg (t i) ∧ 0 < g ∧ g < 4) by omega), if_pos (show t i = 41 ∧ 0 < o from ⟨h, ho⟩)]
theorem qfo_B3 {t : Int → Int} {n i o a g : Int} {f : Nat} (h : qjn (t i)) : qfo t n (f + 1) i o a g 0 = qfo t n f (i + 1) o a g 1 := by
  rw [qfo, if_neg (show ¬ (0 : Int) = 1 by decide), if_neg (show ¬ (qdg (t i) ∧ 0 < g ∧ g < 4) by omega), if_neg (show ¬ (t i = 41 ∧ 0 < o) by omega), if_pos h]
theorem qfo_B4 {t : Int → Int} {n i o a g : Int} {f : Nat} (h : ¬ (qdg (t i) ∧ 0 < g ∧ g < 4)) (ho : ¬ (t i = 41 ∧ 0 < o)) (hj : ¬ qjn (t i)) : qfo t n (f + 1) i o a g 0 = i := by
  rw [qfo, if_neg (show ¬ (0 : Int) = 1 by decide), if_neg h, if_neg ho, if_neg hj]
theorem qfo_E1 {t : Int → Int} {n i o a g : Int} : qfo t n 0 i o a g 1 = n := by
  rw [qfo, if_pos (Or.inl rfl)]
theorem qfo_E2 {t : Int → Int} {n i o a g : Int} (h : 0 < o) : qfo t n 0 i o a g 0 = n := by
  rw [qfo, if_pos (Or.inr h)]
theorem qfo_E3 {t : Int → Int} {n i o a g : Int} (h : ¬ 0 < o) : qfo t n 0 i o a g 0 = -1 := by
  rw [qfo, if_neg (by omega)]
theorem s_faultAsFormula (d : Nat) (S : zS) (n : Int) (t : Int → Int) (h : 3 ≤ d) (hK : qK S) (p0 : zm S 4 0 = 5) (p1 : zm S 4 1 = n) (p5 : zm S 5 = t) (hn : 0 ≤ n ∧ n ≤ 60) : zD d 101 [vr 4] S = some (.inl (some (vi (qff1 t n))), S) := by
  obtain ⟨e, rfl, h1⟩ := qd h
  have lp : ∀ (f : Nat) (i o a g due : Int) (x6 : zV), 0 ≤ i → i + f = n → (0 ≤ o ∧ o ≤ i) → (0 ≤ a ∧ a ≤ 12) → (0 ≤ g ∧ g ≤ 4) → (due = 0 ∨ due = 1) → zF_101 e 12 [vr 4, vi o, vi a, vi g, vi due, vi i, x6] [] S = some (.inl (some (vi (qfo t n f i o a g due))), S) := by
    intro f
    induction f with
    | zero =>
      intro i o a g due x6 h2 h3 ho ha hg hd
      rw [b101_12]
      rcases hd with rfl | rfl
      · by_cases c2 : 0 < o
        · rw [qfo_E2 c2]
          simp (config := { maxSteps := 2000000 }) (disch := first | omega | (simp only [K_4 hK, qb_in, qkW, qmW, qnW, true_and, and_true, or_self, true_or, or_true, and_self]; done) | (simp only [K_4 hK, qb_in, qkW, qmW, qnW, true_and, and_true, or_self, true_or, or_true, and_self]; omega)) only [b101_0, b101_21, b101_35, b101_42, b101_48, b101_53, b101_58, b101_61, b101_66, b101_69, b101_75, b101_86, b101_89, b101_93, b101_94, b101_98, b101_103, b101_108, b101_111, b101_115, b101_120, b101_126, b101_131, b101_138, b101_142, b101_150, b101_155, b101_162, b101_169, b101_176, b101_183, b101_190, b101_196, b101_199, b101_205, b101_210, b101_214, b101_221, b101_222, qcall_l, qcall_r, qretn_l, qJ_s, qJ_n, qV0, qEx, ↓qif0, ↓zchk_pos, ↓reduceIte, qput, qWW, qmW, qkW, qnW, K_4 hK, p1, if_neg (show ¬ i < n by omega), if_pos c2, Int.reduceEq]
        · rw [qfo_E3 c2]
          simp (config := { maxSteps := 2000000 }) (disch := first | omega | (simp only [K_4 hK, qb_in, qkW, qmW, qnW, true_and, and_true, or_self, true_or, or_true, and_self]; done) | (simp only [K_4 hK, qb_in, qkW, qmW, qnW, true_and, and_true, or_self, true_or, or_true, and_self]; omega)) only [b101_0, b101_21, b101_35, b101_42, b101_48, b101_53, b101_58, b101_61, b101_66, b101_69, b101_75, b101_86, b101_89, b101_93, b101_94, b101_98, b101_103, b101_108, b101_111, b101_115, b101_120, b101_126, b101_131, b101_138, b101_142, b101_150, b101_155, b101_162, b101_169, b101_176, b101_183, b101_190, b101_196, b101_199, b101_205, b101_210, b101_214, b101_221, b101_222, qcall_l, qcall_r, qretn_l, qJ_s, qJ_n, qV0, qEx, ↓qif0, ↓zchk_pos, ↓reduceIte, qput, qWW, qmW, qkW, qnW, K_4 hK, p1, if_neg (show ¬ i < n by omega), if_neg c2, Int.reduceEq]
      · rw [qfo_E1]
        simp (config := { maxSteps := 2000000 }) (disch := first | omega | (simp only [K_4 hK, qb_in, qkW, qmW, qnW, true_and, and_true, or_self, true_or, or_true, and_self]; done) | (simp only [K_4 hK, qb_in, qkW, qmW, qnW, true_and, and_true, or_self, true_or, or_true, and_self]; omega)) only [b101_0, b101_21, b101_35, b101_42, b101_48, b101_53, b101_58, b101_61, b101_66, b101_69, b101_75, b101_86, b101_89, b101_93, b101_94, b101_98, b101_103, b101_108, b101_111, b101_115, b101_120, b101_126, b101_131, b101_138, b101_142, b101_150, b101_155, b101_162, b101_169, b101_176, b101_183, b101_190, b101_196, b101_199, b101_205, b101_210, b101_214, b101_221, b101_222, qcall_l, qcall_r, qretn_l, qJ_s, qJ_n, qV0, qEx, ↓qif0, ↓zchk_pos, ↓reduceIte, qput, qWW, qmW, qkW, qnW, K_4 hK, p1, if_neg (show ¬ i < n by omega), Int.reduceEq]
    | succ f ih =>
      intro i o a g due x6 h2 h3 ho ha hg hd
      have sd := s_isDigit e (t i) S (by omega)
      have ss := s_isSmallLetter e (t i) S (by omega)
      have ih := ih (i + 1)
      rw [b101_12]
      rcases hd with rfl | rfl
      · by_cases c1 : qdg (t i)
        · rw [qb_p c1] at sd
          by_cases c2 : 0 < g ∧ g < 4
          · rw [qfo_B1 c1 c2]
            simp (config := { maxSteps := 2000000 }) (disch := first | omega | (simp only [K_4 hK, K_5 hK, p0, qb_in, qkW, qmW, qnW, true_and, and_true, or_self, true_or, or_true, and_self]; done) | (simp only [K_4 hK, K_5 hK, p0, qb_in, qkW, qmW, qnW, true_and, and_true, or_self, true_or, or_true, and_self]; omega)) only [b101_0, b101_21, b101_35, b101_42, b101_48, b101_53, b101_58, b101_61, b101_66, b101_69, b101_75, b101_86, b101_89, b101_93, b101_94, b101_98, b101_103, b101_108, b101_111, b101_115, b101_120, b101_126, b101_131, b101_138, b101_142, b101_150, b101_155, b101_162, b101_169, b101_176, b101_183, b101_190, b101_196, b101_199, b101_205, b101_210, b101_214, b101_221, b101_222, qcall_l, qcall_r, qretn_l, qJ_s, qJ_n, qV0, qEx, ↓qif0, ↓zchk_pos, ↓reduceIte, qput, qWW, qmW, qkW, qnW, K_4 hK, K_5 hK, p0, p1, p5, if_pos (show i < n by omega), sd, ss, if_pos c2.1, if_pos c2.2, Int.reduceEq, q32]
            exact ih o a (g + 1) 0 _ (by omega) (by omega) (by omega) ha (by omega) (Or.inl rfl)
          · rw [qfo_B4 (fun z => c2 z.2) (by omega) (by omega)]
            by_cases c3 : 0 < g
            · simp (config := { maxSteps := 2000000 }) (disch := first | omega | (simp only [K_4 hK, K_5 hK, p0, qb_in, qkW, qmW, qnW, true_and, and_true, or_self, true_or, or_true, and_self]; done) | (simp only [K_4 hK, K_5 hK, p0, qb_in, qkW, qmW, qnW, true_and, and_true, or_self, true_or, or_true, and_self]; omega)) only [b101_0, b101_21, b101_35, b101_42, b101_48, b101_53, b101_58, b101_61, b101_66, b101_69, b101_75, b101_86, b101_89, b101_93, b101_94, b101_98, b101_103, b101_108, b101_111, b101_115, b101_120, b101_126, b101_131, b101_138, b101_142, b101_150, b101_155, b101_162, b101_169, b101_176, b101_183, b101_190, b101_196, b101_199, b101_205, b101_210, b101_214, b101_221, b101_222, qcall_l, qcall_r, qretn_l, qJ_s, qJ_n, qV0, qEx, ↓qif0, ↓zchk_pos, ↓reduceIte, qput, qWW, qmW, qkW, qnW, K_4 hK, K_5 hK, p0, p1, p5, if_pos (show i < n by omega), sd, ss, if_pos c3, if_neg (show ¬ g < 4 by omega), if_neg (show ¬ t i = 41 by omega), if_neg (show ¬ t i = 43 by omega), if_neg (show ¬ t i = 45 by omega), if_neg (show ¬ t i = 46 by omega), if_neg (show ¬ t i = 47 by omega), if_neg (show ¬ t i = 94 by omega), Int.reduceEq, q32]
            · simp (config := { maxSteps := 2000000 }) (disch := first | omega | (simp only [K_4 hK, K_5 hK, p0, qb_in, qkW, qmW, qnW, true_and, and_true, or_self, true_or, or_true, and_self]; done) | (simp only [K_4 hK, K_5 hK, p0, qb_in, qkW, qmW, qnW, true_and, and_true, or_self, true_or, or_true, and_self]; omega)) only [b101_0, b101_21, b101_35, b101_42, b101_48, b101_53, b101_58, b101_61, b101_66, b101_69, b101_75, b101_86, b101_89, b101_93, b101_94, b101_98, b101_103, b101_108, b101_111, b101_115, b101_120, b101_126, b101_131, b101_138, b101_142, b101_150, b101_155, b101_162, b101_169, b101_176, b101_183, b101_190, b101_196, b101_199, b101_205, b101_210, b101_214, b101_221, b101_222, qcall_l, qcall_r, qretn_l, qJ_s, qJ_n, qV0, qEx, ↓qif0, ↓zchk_pos, ↓reduceIte, qput, qWW, qmW, qkW, qnW, K_4 hK, K_5 hK, p0, p1, p5, if_pos (show i < n by omega), sd, ss, if_neg c3, if_neg (show ¬ t i = 41 by omega), if_neg (show ¬ t i = 43 by omega), if_neg (show ¬ t i = 45 by omega), if_neg (show ¬ t i = 46 by omega), if_neg (show ¬ t i = 47 by omega), if_neg (show ¬ t i = 94 by omega), Int.reduceEq, q32]
        · rw [qb_n c1] at sd
          by_cases c2 : t i = 41
          · by_cases c3 : 0 < o
            · rw [qfo_B2 c2 c3]
              simp (config := { maxSteps := 2000000 }) (disch := first | omega | (simp only [K_4 hK, K_5 hK, p0, qb_in, qkW, qmW, qnW, true_and, and_true, or_self, true_or, or_true, and_self]; done) | (simp only [K_4 hK, K_5 hK, p0, qb_in, qkW, qmW, qnW, true_and, and_true, or_self, true_or, or_true, and_self]; omega)) only [b101_0, b101_21, b101_35, b101_42, b101_48, b101_53, b101_58, b101_61, b101_66, b101_69, b101_75, b101_86, b101_89, b101_93, b101_94, b101_98, b101_103, b101_108, b101_111, b101_115, b101_120, b101_126, b101_131, b101_138, b101_142, b101_150, b101_155, b101_162, b101_169, b101_176, b101_183, b101_190, b101_196, b101_199, b101_205, b101_210, b101_214, b101_221, b101_222, qcall_l, qcall_r, qretn_l, qJ_s, qJ_n, qV0, qEx, ↓qif0, ↓zchk_pos, ↓reduceIte, qput, qWW, qmW, qkW, qnW, K_4 hK, K_5 hK, p0, p1, p5, if_pos (show i < n by omega), sd, ss, if_pos c2, if_pos c3, Int.reduceEq, q32]
              exact ih (o + -1) a 0 0 _ (by omega) (by omega) (by omega) ha (by omega) (Or.inl rfl)
            · rw [qfo_B4 (fun z => c1 z.1) (fun z => c3 z.2) (by omega)]
              simp (config := { maxSteps := 2000000 }) (disch := first | omega | (simp only [K_4 hK, K_5 hK, p0, qb_in, qkW, qmW, qnW, true_and, and_true, or_self, true_or, or_true, and_self]; done) | (simp only [K_4 hK, K_5 hK, p0, qb_in, qkW, qmW, qnW, true_and, and_true, or_self, true_or, or_true, and_self]; omega)) only [b101_0, b101_21, b101_35, b101_42, b101_48, b101_53, b101_58, b101_61, b101_66, b101_69, b101_75, b101_86, b101_89, b101_93, b101_94, b101_98, b101_103, b101_108, b101_111, b101_115, b101_120, b101_126, b101_131, b101_138, b101_142, b101_150, b101_155, b101_162, b101_169, b101_176, b101_183, b101_190, b101_196, b101_199, b101_205, b101_210, b101_214, b101_221, b101_222, qcall_l, qcall_r, qretn_l, qJ_s, qJ_n, qV0, qEx, ↓qif0, ↓zchk_pos, ↓reduceIte, qput, qWW, qmW, qkW, qnW, K_4 hK, K_5 hK, p0, p1, p5, if_pos (show i < n by omega), sd, ss, if_pos c2, if_neg c3, if_neg (show ¬ t i = 43 by omega), if_neg (show ¬ t i = 45 by omega), if_neg (show ¬ t i = 46 by omega), if_neg (show ¬ t i = 47 by omega), if_neg (show ¬ t i = 94 by omega), Int.reduceEq, q32]
          · by_cases c3 : qjn (t i)
            · rw [qfo_B3 c3]
              have ih := ih o a g 1 vu (by omega) (by omega) (by omega) ha hg (Or.inr rfl)
              by_cases k1 : t i = 43
              · simp (config := { maxSteps := 2000000 }) (disch := first | omega | (simp only [K_4 hK, K_5 hK, p0, qb_in, qkW, qmW, qnW, true_and, and_true, or_self, true_or, or_true, and_self]; done) | (simp only [K_4 hK, K_5 hK, p0, qb_in, qkW, qmW, qnW, true_and, and_true, or_self, true_or, or_true, and_self]; omega)) only [b101_0, b101_21, b101_35, b101_42, b101_48, b101_53, b101_58, b101_61, b101_66, b101_69, b101_75, b101_86, b101_89, b101_93, b101_94, b101_98, b101_103, b101_108, b101_111, b101_115, b101_120, b101_126, b101_131, b101_138, b101_142, b101_150, b101_155, b101_162, b101_169, b101_176, b101_183, b101_190, b101_196, b101_199, b101_205, b101_210, b101_214, b101_221, b101_222, qcall_l, qcall_r, qretn_l, qJ_s, qJ_n, qV0, qEx, ↓qif0, ↓zchk_pos, ↓reduceIte, qput, qWW, qmW, qkW, qnW, K_4 hK, K_5 hK, p0, p1, p5, if_pos (show i < n by omega), sd, ss, if_neg c2, if_pos k1, Int.reduceEq, q32]
                exact ih
              · by_cases k2 : t i = 45
                · simp (config := { maxSteps := 2000000 }) (disch := first | omega | (simp only [K_4 hK, K_5 hK, p0, qb_in, qkW, qmW, qnW, true_and, and_true, or_self, true_or, or_true, and_self]; done) | (simp only [K_4 hK, K_5 hK, p0, qb_in, qkW, qmW, qnW, true_and, and_true, or_self, true_or, or_true, and_self]; omega)) only [b101_0, b101_21, b101_35, b101_42, b101_48, b101_53, b101_58, b101_61, b101_66, b101_69, b101_75, b101_86, b101_89, b101_93, b101_94, b101_98, b101_103, b101_108, b101_111, b101_115, b101_120, b101_126, b101_131, b101_138, b101_142, b101_150, b101_155, b101_162, b101_169, b101_176, b101_183, b101_190, b101_196, b101_199, b101_205, b101_210, b101_214, b101_221, b101_222, qcall_l, qcall_r, qretn_l, qJ_s, qJ_n, qV0, qEx, ↓qif0, ↓zchk_pos, ↓reduceIte, qput, qWW, qmW, qkW, qnW, K_4 hK, K_5 hK, p0, p1, p5, if_pos (show i < n by omega), sd, ss, if_neg c2, if_neg k1, if_pos k2, Int.reduceEq, q32]
                  exact ih
                · by_cases k3 : t i = 46
                  · simp (config := { maxSteps := 2000000 }) (disch := first | omega | (simp only [K_4 hK, K_5 hK, p0, qb_in, qkW, qmW, qnW, true_and, and_true, or_self, true_or, or_true, and_self]; done) | (simp only [K_4 hK, K_5 hK, p0, qb_in, qkW, qmW, qnW, true_and, and_true, or_self, true_or, or_true, and_self]; omega)) only [b101_0, b101_21, b101_35, b101_42, b101_48, b101_53, b101_58, b101_61, b101_66, b101_69, b101_75, b101_86, b101_89, b101_93, b101_94, b101_98, b101_103, b101_108, b101_111, b101_115, b101_120, b101_126, b101_131, b101_138, b101_142, b101_150, b101_155, b101_162, b101_169, b101_176, b101_183, b101_190, b101_196, b101_199, b101_205, b101_210, b101_214, b101_221, b101_222, qcall_l, qcall_r, qretn_l, qJ_s, qJ_n, qV0, qEx, ↓qif0, ↓zchk_pos, ↓reduceIte, qput, qWW, qmW, qkW, qnW, K_4 hK, K_5 hK, p0, p1, p5, if_pos (show i < n by omega), sd, ss, if_neg c2, if_neg k1, if_neg k2, if_pos k3, Int.reduceEq, q32]
                    exact ih
                  · by_cases k4 : t i = 47
                    · simp (config := { maxSteps := 2000000 }) (disch := first | omega | (simp only [K_4 hK, K_5 hK, p0, qb_in, qkW, qmW, qnW, true_and, and_true, or_self, true_or, or_true, and_self]; done) | (simp only [K_4 hK, K_5 hK, p0, qb_in, qkW, qmW, qnW, true_and, and_true, or_self, true_or, or_true, and_self]; omega)) only [b101_0, b101_21, b101_35, b101_42, b101_48, b101_53, b101_58, b101_61, b101_66, b101_69, b101_75, b101_86, b101_89, b101_93, b101_94, b101_98, b101_103, b101_108, b101_111, b101_115, b101_120, b101_126, b101_131, b101_138, b101_142, b101_150, b101_155, b101_162, b101_169, b101_176, b101_183, b101_190, b101_196, b101_199, b101_205, b101_210, b101_214, b101_221, b101_222, qcall_l, qcall_r, qretn_l, qJ_s, qJ_n, qV0, qEx, ↓qif0, ↓zchk_pos, ↓reduceIte, qput, qWW, qmW, qkW, qnW, K_4 hK, K_5 hK, p0, p1, p5, if_pos (show i < n by omega), sd, ss, if_neg c2, if_neg k1, if_neg k2, if_neg k3, if_pos k4, Int.reduceEq, q32]
                      exact ih
                    · simp (config := { maxSteps := 2000000 }) (disch := first | omega | (simp only [K_4 hK, K_5 hK, p0, qb_in, qkW, qmW, qnW, true_and, and_true, or_self, true_or, or_true, and_self]; done) | (simp only [K_4 hK, K_5 hK, p0, qb_in, qkW, qmW, qnW, true_and, and_true, or_self, true_or, or_true, and_self]; omega)) only [b101_0, b101_21, b101_35, b101_42, b101_48, b101_53, b101_58, b101_61, b101_66, b101_69, b101_75, b101_86, b101_89, b101_93, b101_94, b101_98, b101_103, b101_108, b101_111, b101_115, b101_120, b101_126, b101_131, b101_138, b101_142, b101_150, b101_155, b101_162, b101_169, b101_176, b101_183, b101_190, b101_196, b101_199, b101_205, b101_210, b101_214, b101_221, b101_222, qcall_l, qcall_r, qretn_l, qJ_s, qJ_n, qV0, qEx, ↓qif0, ↓zchk_pos, ↓reduceIte, qput, qWW, qmW, qkW, qnW, K_4 hK, K_5 hK, p0, p1, p5, if_pos (show i < n by omega), sd, ss, if_neg c2, if_neg k1, if_neg k2, if_neg k3, if_neg k4, if_pos (show t i = 94 by omega), Int.reduceEq, q32]
                      exact ih
            · rw [qfo_B4 (fun z => c1 z.1) (fun z => c2 z.1) c3]
              simp (config := { maxSteps := 2000000 }) (disch := first | omega | (simp only [K_4 hK, K_5 hK, p0, qb_in, qkW, qmW, qnW, true_and, and_true, or_self, true_or, or_true, and_self]; done) | (simp only [K_4 hK, K_5 hK, p0, qb_in, qkW, qmW, qnW, true_and, and_true, or_self, true_or, or_true, and_self]; omega)) only [b101_0, b101_21, b101_35, b101_42, b101_48, b101_53, b101_58, b101_61, b101_66, b101_69, b101_75, b101_86, b101_89, b101_93, b101_94, b101_98, b101_103, b101_108, b101_111, b101_115, b101_120, b101_126, b101_131, b101_138, b101_142, b101_150, b101_155, b101_162, b101_169, b101_176, b101_183, b101_190, b101_196, b101_199, b101_205, b101_210, b101_214, b101_221, b101_222, qcall_l, qcall_r, qretn_l, qJ_s, qJ_n, qV0, qEx, ↓qif0, ↓zchk_pos, ↓reduceIte, qput, qWW, qmW, qkW, qnW, K_4 hK, K_5 hK, p0, p1, p5, if_pos (show i < n by omega), sd, ss, if_neg c2, if_neg (show ¬ t i = 43 by omega), if_neg (show ¬ t i = 45 by omega), if_neg (show ¬ t i = 46 by omega), if_neg (show ¬ t i = 47 by omega), if_neg (show ¬ t i = 94 by omega), Int.reduceEq, q32]
      · by_cases c1 : t i = 40
        · rw [qfo_A1 c1]
          simp (config := { maxSteps := 2000000 }) (disch := first | omega | (simp only [K_4 hK, K_5 hK, p0, qb_in, qkW, qmW, qnW, true_and, and_true, or_self, true_or, or_true, and_self]; done) | (simp only [K_4 hK, K_5 hK, p0, qb_in, qkW, qmW, qnW, true_and, and_true, or_self, true_or, or_true, and_self]; omega)) only [b101_0, b101_21, b101_35, b101_42, b101_48, b101_53, b101_58, b101_61, b101_66, b101_69, b101_75, b101_86, b101_89, b101_93, b101_94, b101_98, b101_103, b101_108, b101_111, b101_115, b101_120, b101_126, b101_131, b101_138, b101_142, b101_150, b101_155, b101_162, b101_169, b101_176, b101_183, b101_190, b101_196, b101_199, b101_205, b101_210, b101_214, b101_221, b101_222, qcall_l, qcall_r, qretn_l, qJ_s, qJ_n, qV0, qEx, ↓qif0, ↓zchk_pos, ↓reduceIte, qput, qWW, qmW, qkW, qnW, K_4 hK, K_5 hK, p0, p1, p5, if_pos (show i < n by omega), sd, ss, if_pos c1, Int.reduceEq, q32]
          exact ih (o + 1) a g 1 _ (by omega) (by omega) (by omega) ha hg (Or.inr rfl)
        · by_cases c2 : qdg (t i)
          · rw [qb_p c2] at sd
            by_cases c3 : a < 12
            · rw [qfo_A2 c2 c3]
              simp (config := { maxSteps := 2000000 }) (disch := first | omega | (simp only [K_4 hK, K_5 hK, p0, qb_in, qkW, qmW, qnW, true_and, and_true, or_self, true_or, or_true, and_self]; done) | (simp only [K_4 hK, K_5 hK, p0, qb_in, qkW, qmW, qnW, true_and, and_true, or_self, true_or, or_true, and_self]; omega)) only [b101_0, b101_21, b101_35, b101_42, b101_48, b101_53, b101_58, b101_61, b101_66, b101_69, b101_75, b101_86, b101_89, b101_93, b101_94, b101_98, b101_103, b101_108, b101_111, b101_115, b101_120, b101_126, b101_131, b101_138, b101_142, b101_150, b101_155, b101_162, b101_169, b101_176, b101_183, b101_190, b101_196, b101_199, b101_205, b101_210, b101_214, b101_221, b101_222, qcall_l, qcall_r, qretn_l, qJ_s, qJ_n, qV0, qEx, ↓qif0, ↓zchk_pos, ↓reduceIte, qput, qWW, qmW, qkW, qnW, K_4 hK, K_5 hK, p0, p1, p5, if_pos (show i < n by omega), sd, ss, if_neg c1, if_pos c3, Int.reduceEq, q32]
              exact ih o (a + 1) 1 0 _ (by omega) (by omega) (by omega) (by omega) (by omega) (Or.inl rfl)
            · rw [qfo_A4 c1 (fun z => c3 z.2)]
              simp (config := { maxSteps := 2000000 }) (disch := first | omega | (simp only [K_4 hK, K_5 hK, p0, qb_in, qkW, qmW, qnW, true_and, and_true, or_self, true_or, or_true, and_self]; done) | (simp only [K_4 hK, K_5 hK, p0, qb_in, qkW, qmW, qnW, true_and, and_true, or_self, true_or, or_true, and_self]; omega)) only [b101_0, b101_21, b101_35, b101_42, b101_48, b101_53, b101_58, b101_61, b101_66, b101_69, b101_75, b101_86, b101_89, b101_93, b101_94, b101_98, b101_103, b101_108, b101_111, b101_115, b101_120, b101_126, b101_131, b101_138, b101_142, b101_150, b101_155, b101_162, b101_169, b101_176, b101_183, b101_190, b101_196, b101_199, b101_205, b101_210, b101_214, b101_221, b101_222, qcall_l, qcall_r, qretn_l, qJ_s, qJ_n, qV0, qEx, ↓qif0, ↓zchk_pos, ↓reduceIte, qput, qWW, qmW, qkW, qnW, K_4 hK, K_5 hK, p0, p1, p5, if_pos (show i < n by omega), sd, ss, if_neg c1, if_neg c3, Int.reduceEq, q32]
          · rw [qb_n c2] at sd
            by_cases c4 : qsm (t i)
            · rw [qb_p c4] at ss
              by_cases c3 : a < 12
              · rw [qfo_A3 c4 c3]
                simp (config := { maxSteps := 2000000 }) (disch := first | omega | (simp only [K_4 hK, K_5 hK, p0, qb_in, qkW, qmW, qnW, true_and, and_true, or_self, true_or, or_true, and_self]; done) | (simp only [K_4 hK, K_5 hK, p0, qb_in, qkW, qmW, qnW, true_and, and_true, or_self, true_or, or_true, and_self]; omega)) only [b101_0, b101_21, b101_35, b101_42, b101_48, b101_53, b101_58, b101_61, b101_66, b101_69, b101_75, b101_86, b101_89, b101_93, b101_94, b101_98, b101_103, b101_108, b101_111, b101_115, b101_120, b101_126, b101_131, b101_138, b101_142, b101_150, b101_155, b101_162, b101_169, b101_176, b101_183, b101_190, b101_196, b101_199, b101_205, b101_210, b101_214, b101_221, b101_222, qcall_l, qcall_r, qretn_l, qJ_s, qJ_n, qV0, qEx, ↓qif0, ↓zchk_pos, ↓reduceIte, qput, qWW, qmW, qkW, qnW, K_4 hK, K_5 hK, p0, p1, p5, if_pos (show i < n by omega), sd, ss, if_neg c1, if_pos c3, Int.reduceEq, q32]
                exact ih o (a + 1) 0 0 _ (by omega) (by omega) (by omega) (by omega) (by omega) (Or.inl rfl)
              · rw [qfo_A4 c1 (fun z => c3 z.2)]
                simp (config := { maxSteps := 2000000 }) (disch := first | omega | (simp only [K_4 hK, K_5 hK, p0, qb_in, qkW, qmW, qnW, true_and, and_true, or_self, true_or, or_true, and_self]; done) | (simp only [K_4 hK, K_5 hK, p0, qb_in, qkW, qmW, qnW, true_and, and_true, or_self, true_or, or_true, and_self]; omega)) only [b101_0, b101_21, b101_35, b101_42, b101_48, b101_53, b101_58, b101_61, b101_66, b101_69, b101_75, b101_86, b101_89, b101_93, b101_94, b101_98, b101_103, b101_108, b101_111, b101_115, b101_120, b101_126, b101_131, b101_138, b101_142, b101_150, b101_155, b101_162, b101_169, b101_176, b101_183, b101_190, b101_196, b101_199, b101_205, b101_210, b101_214, b101_221, b101_222, qcall_l, qcall_r, qretn_l, qJ_s, qJ_n, qV0, qEx, ↓qif0, ↓zchk_pos, ↓reduceIte, qput, qWW, qmW, qkW, qnW, K_4 hK, K_5 hK, p0, p1, p5, if_pos (show i < n by omega), sd, ss, if_neg c1, if_neg c3, Int.reduceEq, q32]
            · rw [qb_n c4] at ss
              rw [qfo_A4 c1 (fun z => z.1.elim c2 c4)]
              simp (config := { maxSteps := 2000000 }) (disch := first | omega | (simp only [K_4 hK, K_5 hK, p0, qb_in, qkW, qmW, qnW, true_and, and_true, or_self, true_or, or_true, and_self]; done) | (simp only [K_4 hK, K_5 hK, p0, qb_in, qkW, qmW, qnW, true_and, and_true, or_self, true_or, or_true, and_self]; omega)) only [b101_0, b101_21, b101_35, b101_42, b101_48, b101_53, b101_58, b101_61, b101_66, b101_69, b101_75, b101_86, b101_89, b101_93, b101_94, b101_98, b101_103, b101_108, b101_111, b101_115, b101_120, b101_126, b101_131, b101_138, b101_142, b101_150, b101_155, b101_162, b101_169, b101_176, b101_183, b101_190, b101_196, b101_199, b101_205, b101_210, b101_214, b101_221, b101_222, qcall_l, qcall_r, qretn_l, qJ_s, qJ_n, qV0, qEx, ↓qif0, ↓zchk_pos, ↓reduceIte, qput, qWW, qmW, qkW, qnW, K_4 hK, K_5 hK, p0, p1, p5, if_pos (show i < n by omega), sd, ss, if_neg c1, Int.reduceEq, q32]
  simp (config := { maxSteps := 2000000 }) (disch := first | omega | (simp only [qb_in, qkW, qmW, qnW, true_and, and_true, or_self, true_or, or_true, and_self]; done) | (simp only [qb_in, qkW, qmW, qnW, true_and, and_true, or_self, true_or, or_true, and_self]; omega)) only [zD_101, b101_0, b101_21, b101_35, b101_42, b101_48, b101_53, b101_58, b101_61, b101_66, b101_69, b101_75, b101_86, b101_89, b101_93, b101_94, b101_98, b101_103, b101_108, b101_111, b101_115, b101_120, b101_126, b101_131, b101_138, b101_142, b101_150, b101_155, b101_162, b101_169, b101_176, b101_183, b101_190, b101_196, b101_199, b101_205, b101_210, b101_214, b101_221, b101_222, qcall_l, qcall_r, qretn_l, qJ_s, qJ_n, qV0, qEx, ↓qif0, ↓zchk_pos, ↓reduceIte, qput, qWW, qmW, qkW, qnW]
  exact lp n.toNat 0 0 0 0 1 vu (by omega) (by omega) (by omega) (by omega) (by omega) (Or.inr rfl)
theorem r_isJoin (d : Nat) (S : zS) (c : Int) (h : 1 ≤ d) : zD d 234 [vi c] S = some (.inl (some (vi (qb (qjn c)))), S) := by
  obtain ⟨e, rfl, -⟩ := qd h
  by_cases hj : qjn c
  · rw [qb_p hj]
    rcases hj with rfl | rfl | rfl | rfl | rfl
    all_goals simp (config := { maxSteps := 2000000 }) (disch := first | omega | (simp only [qb_in, qkW, qmW, qnW, true_and, and_true, or_self, true_or, or_true, and_self]; done) | (simp only [qb_in, qkW, qmW, qnW, true_and, and_true, or_self, true_or, or_true, and_self]; omega)) only [zD_234, b234_0, b234_6, b234_12, b234_18, b234_24, b234_30, b234_34, b234_35, qcall_l, qcall_r, qretn_l, qJ_s, qJ_n, qV0, qEx, ↓qif0, ↓zchk_pos, ↓reduceIte, qput, qWW, qmW, qkW, qnW, Int.reduceEq, Int.reduceLE, true_and, and_self]
  · rw [qb_n hj]
    simp (config := { maxSteps := 2000000 }) (disch := first | omega | (simp only [qb_in, qkW, qmW, qnW, true_and, and_true, or_self, true_or, or_true, and_self]; done) | (simp only [qb_in, qkW, qmW, qnW, true_and, and_true, or_self, true_or, or_true, and_self]; omega)) only [zD_234, b234_0, b234_6, b234_12, b234_18, b234_24, b234_30, b234_34, b234_35, qcall_l, qcall_r, qretn_l, qJ_s, qJ_n, qV0, qEx, ↓qif0, ↓zchk_pos, ↓reduceIte, qput, qWW, qmW, qkW, qnW, if_neg (show ¬ c = 43 by omega), if_neg (show ¬ c = 45 by omega), if_neg (show ¬ c = 46 by omega), if_neg (show ¬ c = 47 by omega), if_neg (show ¬ c = 94 by omega), Int.reduceLE, true_and, and_self]
/-- the reference's own loop -/
theorem r_formulaFaultOf (d : Nat) (S : zS) (n : Int) (t : Int → Int) (h : 4 ≤ d) (hK : qK S) (hP : qP (zm S)) (hT : qTr (zm S)) (p1 : zm S 37 2 = n) (p5 : zm S 38 = t) : zD d 236 [vr 37] S = some (.inl (some (vi (qff1 t n))), S) := by
  obtain ⟨e, rfl, h1⟩ := qd h
  have hn0 := hT.1
  have hn1 := hT.2.1
  have sg : ∀ i, 0 ≤ i → i < n → zD e 199 [vr 37, vi i] S = some (.inl (some (vi (t i))), S) := fun i i1 i2 => by
    have := r_signAt e S i (by omega) i1 hK hP hT
    rw [show qms (zm S) i = zm S 38 i from qsg_lt (by omega), p5] at this
    exact this
  have sn : ∀ i, n ≤ i → zD e 199 [vr 37, vi i] S = some (.inl (some (vi 0)), S) := fun i i1 => by
    have := r_signAt e S i (by omega) (by omega) hK hP hT
    rw [show qms (zm S) i = 0 from qsg_ge (by omega)] at this
    exact this
  have inner : ∀ (f : Nat) (k o a g c0 first : Int) (y3 : zV), qdg c0 → g = k - first → (0 < g ∧ g ≤ 4) → 0 ≤ k → k + f = n → ∃ (k' g' : Int) (f' : Nat), zF_236 e 85 [vr 37, vi o, vi a, y3, vi k, vi c0, vi first] [] S = zF_236 e 9 [vr 37, vi o, vi a, vi 0, vi k', vu, vu] [] S ∧ qfo t n f k o a g 0 = qfo t n f' k' o a g' 0 ∧ k ≤ k' ∧ k' + f' = n ∧ f' ≤ f ∧ (k' < n → qdg (t k') → 4 ≤ g') := by
    intro f
    induction f with
    | zero =>
      intro k o a g c0 first y3 hc hg hgr hk hkn
      refine ⟨k, g, 0, ?_, rfl, by omega, hkn, by omega, fun q => by omega⟩
      rw [b236_85]
      have q1 := r_isDigit e c0 S (by omega)
      have q2 := r_isDigit e 0 S (by omega)
      rw [qb_p hc] at q1
      rw [qb_n (by omega)] at q2
      simp (config := { maxSteps := 2000000 }) (disch := first | omega | (simp only [K_37 hK, qb_in, qkW, qmW, qnW, true_and, and_true, or_self, true_or, or_true, and_self]; done) | (simp only [K_37 hK, qb_in, qkW, qmW, qnW, true_and, and_true, or_self, true_or, or_true, and_self]; omega)) only [b236_0, b236_18, b236_24, b236_30, b236_37, b236_46, b236_50, b236_56, b236_61, b236_64, b236_69, b236_72, b236_75, b236_90, b236_93, b236_99, b236_102, b236_105, b236_114, b236_120, b236_125, b236_132, b236_136, b236_145, b236_150, b236_153, b236_161, b236_164, b236_167, b236_171, b236_175, b236_182, b236_183, qcall_l, qcall_r, qretn_l, qJ_s, qJ_n, qV0, qEx, ↓qif0, ↓zchk_pos, ↓reduceIte, qput, qWW, qmW, qkW, qnW, K_37 hK, q1, sn k (by omega), q2, Int.reduceEq]
    | succ f ih =>
      intro k o a g c0 first y3 hc hg hgr hk hkn
      have q1 := r_isDigit e c0 S (by omega)
      have q2 := r_isDigit e (t k) S (by omega)
      rw [qb_p hc] at q1
      rw [b236_85]
      by_cases c1 : qdg (t k)
      · rw [qb_p c1] at q2
        by_cases c2 : g < 4
        · obtain ⟨k', g', f', r, p1, p2, p3, p4, p5⟩ := ih (k + 1) o a (g + 1) c0 first vu hc (by omega) (by omega) (by omega) (by omega)
          refine ⟨k', g', f', ?_, by rw [qfo_B1 c1 ⟨by omega, c2⟩]; exact p1, by omega, p3, by omega, p5⟩
          simp (config := { maxSteps := 2000000 }) (disch := first | omega | (simp only [K_37 hK, qb_in, qkW, qmW, qnW, true_and, and_true, or_self, true_or, or_true, and_self]; done) | (simp only [K_37 hK, qb_in, qkW, qmW, qnW, true_and, and_true, or_self, true_or, or_true, and_self]; omega)) only [b236_0, b236_18, b236_24, b236_30, b236_37, b236_46, b236_50, b236_56, b236_61, b236_64, b236_69, b236_72, b236_75, b236_90, b236_93, b236_99, b236_102, b236_105, b236_114, b236_120, b236_125, b236_132, b236_136, b236_145, b236_150, b236_153, b236_161, b236_164, b236_167, b236_171, b236_175, b236_182, b236_183, qcall_l, qcall_r, qretn_l, qJ_s, qJ_n, qV0, qEx, ↓qif0, ↓zchk_pos, ↓reduceIte, qput, qWW, qmW, qkW, qnW, K_37 hK, q1, sg k (by omega) (by omega), q2, Int.reduceEq, if_pos (show k - first < 4 by omega), q32]
          exact r
        · refine ⟨k, g, f + 1, ?_, rfl, by omega, hkn, by omega, fun _ _ => by omega⟩
          simp (config := { maxSteps := 2000000 }) (disch := first | omega | (simp only [K_37 hK, qb_in, qkW, qmW, qnW, true_and, and_true, or_self, true_or, or_true, and_self]; done) | (simp only [K_37 hK, qb_in, qkW, qmW, qnW, true_and, and_true, or_self, true_or, or_true, and_self]; omega)) only [b236_0, b236_18, b236_24, b236_30, b236_37, b236_46, b236_50, b236_56, b236_61, b236_64, b236_69, b236_72, b236_75, b236_90, b236_93, b236_99, b236_102, b236_105, b236_114, b236_120, b236_125, b236_132, b236_136, b236_145, b236_150, b236_153, b236_161, b236_164, b236_167, b236_171, b236_175, b236_182, b236_183, qcall_l, qcall_r, qretn_l, qJ_s, qJ_n, qV0, qEx, ↓qif0, ↓zchk_pos, ↓reduceIte, qput, qWW, qmW, qkW, qnW, K_37 hK, q1, sg k (by omega) (by omega), q2, Int.reduceEq, if_neg (show ¬ k - first < 4 by omega), q32]
      · rw [qb_n c1] at q2
        refine ⟨k, g, f + 1, ?_, rfl, by omega, hkn, by omega, fun _ q => absurd q c1⟩
        simp (config := { maxSteps := 2000000 }) (disch := first | omega | (simp only [K_37 hK, qb_in, qkW, qmW, qnW, true_and, and_true, or_self, true_or, or_true, and_self]; done) | (simp only [K_37 hK, qb_in, qkW, qmW, qnW, true_and, and_true, or_self, true_or, or_true, and_self]; omega)) only [b236_0, b236_18, b236_24, b236_30, b236_37, b236_46, b236_50, b236_56, b236_61, b236_64, b236_69, b236_72, b236_75, b236_90, b236_93, b236_99, b236_102, b236_105, b236_114, b236_120, b236_125, b236_132, b236_136, b236_145, b236_150, b236_153, b236_161, b236_164, b236_167, b236_171, b236_175, b236_182, b236_183, qcall_l, qcall_r, qretn_l, qJ_s, qJ_n, qV0, qEx, ↓qif0, ↓zchk_pos, ↓reduceIte, qput, qWW, qmW, qkW, qnW, K_37 hK, q1, sg k (by omega) (by omega), q2, Int.reduceEq, q32]
  have lp : ∀ (F f : Nat) (k o a g due : Int) (y5 y6 : zV), f ≤ F → 0 ≤ k → k + f = n → (0 ≤ o ∧ o ≤ k) → (0 ≤ a ∧ a ≤ 12) → (due = 0 ∧ (k < n → qdg (t k) → g ≤ 0 ∨ 4 ≤ g) ∨ due = 1) → zF_236 e 9 [vr 37, vi o, vi a, vi due, vi k, y5, y6] [] S = some (.inl (some (vi (qfo t n f k o a g due))), S) := by
    intro F
    induction F with
    | zero =>
      intro f k o a g due y5 y6 hF h2 h3 ho ha hd
      have hf : f = 0 := by omega
      subst hf
      rw [b236_9]
      rcases hd with ⟨rfl, -⟩ | rfl
      · by_cases c2 : 0 < o
        · rw [qfo_E2 c2]
          simp (config := { maxSteps := 2000000 }) (disch := first | omega | (simp only [K_37 hK, qb_in, qkW, qmW, qnW, true_and, and_true, or_self, true_or, or_true, and_self]; done) | (simp only [K_37 hK, qb_in, qkW, qmW, qnW, true_and, and_true, or_self, true_or, or_true, and_self]; omega)) only [b236_0, b236_18, b236_24, b236_30, b236_37, b236_46, b236_50, b236_56, b236_61, b236_64, b236_69, b236_72, b236_75, b236_90, b236_93, b236_99, b236_102, b236_105, b236_114, b236_120, b236_125, b236_132, b236_136, b236_145, b236_150, b236_153, b236_161, b236_164, b236_167, b236_171, b236_175, b236_182, b236_183, qcall_l, qcall_r, qretn_l, qJ_s, qJ_n, qV0, qEx, ↓qif0, ↓zchk_pos, ↓reduceIte, qput, qWW, qmW, qkW, qnW, K_37 hK, p1, if_neg (show ¬ k < n by omega), if_pos c2, Int.reduceEq]
        · rw [qfo_E3 c2]
          simp (config := { maxSteps := 2000000 }) (disch := first | omega | (simp only [K_37 hK, qb_in, qkW, qmW, qnW, true_and, and_true, or_self, true_or, or_true, and_self]; done) | (simp only [K_37 hK, qb_in, qkW, qmW, qnW, true_and, and_true, or_self, true_or, or_true, and_self]; omega)) only [b236_0, b236_18, b236_24, b236_30, b236_37, b236_46, b236_50, b236_56, b236_61, b236_64, b236_69, b236_72, b236_75, b236_90, b236_93, b236_99, b236_102, b236_105, b236_114, b236_120, b236_125, b236_132, b236_136, b236_145, b236_150, b236_153, b236_161, b236_164, b236_167, b236_171, b236_175, b236_182, b236_183, qcall_l, qcall_r, qretn_l, qJ_s, qJ_n, qV0, qEx, ↓qif0, ↓zchk_pos, ↓reduceIte, qput, qWW, qmW, qkW, qnW, K_37 hK, p1, if_neg (show ¬ k < n by omega), if_neg c2, Int.reduceEq]
      · rw [qfo_E1]
        simp (config := { maxSteps := 2000000 }) (disch := first | omega | (simp only [K_37 hK, qb_in, qkW, qmW, qnW, true_and, and_true, or_self, true_or, or_true, and_self]; done) | (simp only [K_37 hK, qb_in, qkW, qmW, qnW, true_and, and_true, or_self, true_or, or_true, and_self]; omega)) only [b236_0, b236_18, b236_24, b236_30, b236_37, b236_46, b236_50, b236_56, b236_61, b236_64, b236_69, b236_72, b236_75, b236_90, b236_93, b236_99, b236_102, b236_105, b236_114, b236_120, b236_125, b236_132, b236_136, b236_145, b236_150, b236_153, b236_161, b236_164, b236_167, b236_171, b236_175, b236_182, b236_183, qcall_l, qcall_r, qretn_l, qJ_s, qJ_n, qV0, qEx, ↓qif0, ↓zchk_pos, ↓reduceIte, qput, qWW, qmW, qkW, qnW, K_37 hK, p1, if_neg (show ¬ k < n by omega), Int.reduceEq]
    | succ F ih =>
      intro f k o a g due y5 y6 hF h2 h3 ho ha hd
      rw [b236_9]
      cases f with
      | zero =>
        rcases hd with ⟨rfl, -⟩ | rfl
        · by_cases c2 : 0 < o
          · rw [qfo_E2 c2]
            simp (config := { maxSteps := 2000000 }) (disch := first | omega | (simp only [K_37 hK, qb_in, qkW, qmW, qnW, true_and, and_true, or_self, true_or, or_true, and_self]; done) | (simp only [K_37 hK, qb_in, qkW, qmW, qnW, true_and, and_true, or_self, true_or, or_true, and_self]; omega)) only [b236_0, b236_18, b236_24, b236_30, b236_37, b236_46, b236_50, b236_56, b236_61, b236_64, b236_69, b236_72, b236_75, b236_90, b236_93, b236_99, b236_102, b236_105, b236_114, b236_120, b236_125, b236_132, b236_136, b236_145, b236_150, b236_153, b236_161, b236_164, b236_167, b236_171, b236_175, b236_182, b236_183, qcall_l, qcall_r, qretn_l, qJ_s, qJ_n, qV0, qEx, ↓qif0, ↓zchk_pos, ↓reduceIte, qput, qWW, qmW, qkW, qnW, K_37 hK, p1, if_neg (show ¬ k < n by omega), if_pos c2, Int.reduceEq]
          · rw [qfo_E3 c2]
            simp (config := { maxSteps := 2000000 }) (disch := first | omega | (simp only [K_37 hK, qb_in, qkW, qmW, qnW, true_and, and_true, or_self, true_or, or_true, and_self]; done) | (simp only [K_37 hK, qb_in, qkW, qmW, qnW, true_and, and_true, or_self, true_or, or_true, and_self]; omega)) only [b236_0, b236_18, b236_24, b236_30, b236_37, b236_46, b236_50, b236_56, b236_61, b236_64, b236_69, b236_72, b236_75, b236_90, b236_93, b236_99, b236_102, b236_105, b236_114, b236_120, b236_125, b236_132, b236_136, b236_145, b236_150, b236_153, b236_161, b236_164, b236_167, b236_171, b236_175, b236_182, b236_183, qcall_l, qcall_r, qretn_l, qJ_s, qJ_n, qV0, qEx, ↓qif0, ↓zchk_pos, ↓reduceIte, qput, qWW, qmW, qkW, qnW, K_37 hK, p1, if_neg (show ¬ k < n by omega), if_neg c2, Int.reduceEq]
        · rw [qfo_E1]
          simp (config := { maxSteps := 2000000 }) (disch := first | omega | (simp only [K_37 hK, qb_in, qkW, qmW, qnW, true_and, and_true, or_self, true_or, or_true, and_self]; done) | (simp only [K_37 hK, qb_in, qkW, qmW, qnW, true_and, and_true, or_self, true_or, or_true, and_self]; omega)) only [b236_0, b236_18, b236_24, b236_30, b236_37, b236_46, b236_50, b236_56, b236_61, b236_64, b236_69, b236_72, b236_75, b236_90, b236_93, b236_99, b236_102, b236_105, b236_114, b236_120, b236_125, b236_132, b236_136, b236_145, b236_150, b236_153, b236_161, b236_164, b236_167, b236_171, b236_175, b236_182, b236_183, qcall_l, qcall_r, qretn_l, qJ_s, qJ_n, qV0, qEx, ↓qif0, ↓zchk_pos, ↓reduceIte, qput, qWW, qmW, qkW, qnW, K_37 hK, p1, if_neg (show ¬ k < n by omega), Int.reduceEq]
      | succ f =>
        have g1 := sg k h2 (by omega)
        have q1 := r_isDigit e (t k) S (by omega)
        have q2 := r_isSmall e (t k) S (by omega)
        have q3 := r_isJoin e S (t k) (by omega)
        rcases hd with ⟨rfl, hdg⟩ | rfl
        · have hdg := hdg (by omega)
          by_cases c2 : t k = 41
          · by_cases c3 : 0 < o
            · rw [qfo_B2 c2 c3]
              simp (config := { maxSteps := 2000000 }) (disch := first | omega | (simp only [K_37 hK, qb_in, qkW, qmW, qnW, true_and, and_true, or_self, true_or, or_true, and_self]; done) | (simp only [K_37 hK, qb_in, qkW, qmW, qnW, true_and, and_true, or_self, true_or, or_true, and_self]; omega)) only [b236_0, b236_18, b236_24, b236_30, b236_37, b236_46, b236_50, b236_56, b236_61, b236_64, b236_69, b236_72, b236_75, b236_90, b236_93, b236_99, b236_102, b236_105, b236_114, b236_120, b236_125, b236_132, b236_136, b236_145, b236_150, b236_153, b236_161, b236_164, b236_167, b236_171, b236_175, b236_182, b236_183, qcall_l, qcall_r, qretn_l, qJ_s, qJ_n, qV0, qEx, ↓qif0, ↓zchk_pos, ↓reduceIte, qput, qWW, qmW, qkW, qnW, K_37 hK, p1, if_pos (show k < n by omega), g1, if_pos c2, if_pos c3, Int.reduceEq, q32]
              exact ih f (k + 1) (o + -1) a 0 0 _ _ (by omega) (by omega) (by omega) (by omega) ha (Or.inl ⟨rfl, fun _ _ => Or.inl (by decide)⟩)
            · rw [qb_n (show ¬ qjn (t k) by omega)] at q3
              rw [qfo_B4 (by omega) (fun z => c3 z.2) (by omega)]
              simp (config := { maxSteps := 2000000 }) (disch := first | omega | (simp only [K_37 hK, qb_in, qkW, qmW, qnW, true_and, and_true, or_self, true_or, or_true, and_self]; done) | (simp only [K_37 hK, qb_in, qkW, qmW, qnW, true_and, and_true, or_self, true_or, or_true, and_self]; omega)) only [b236_0, b236_18, b236_24, b236_30, b236_37, b236_46, b236_50, b236_56, b236_61, b236_64, b236_69, b236_72, b236_75, b236_90, b236_93, b236_99, b236_102, b236_105, b236_114, b236_120, b236_125, b236_132, b236_136, b236_145, b236_150, b236_153, b236_161, b236_164, b236_167, b236_171, b236_175, b236_182, b236_183, qcall_l, qcall_r, qretn_l, qJ_s, qJ_n, qV0, qEx, ↓qif0, ↓zchk_pos, ↓reduceIte, qput, qWW, qmW, qkW, qnW, K_37 hK, p1, if_pos (show k < n by omega), g1, if_pos c2, if_neg c3, q3, Int.reduceEq, q32]
          · by_cases c3 : qjn (t k)
            · rw [qb_p c3] at q3
              rw [qfo_B3 c3]
              simp (config := { maxSteps := 2000000 }) (disch := first | omega | (simp only [K_37 hK, qb_in, qkW, qmW, qnW, true_and, and_true, or_self, true_or, or_true, and_self]; done) | (simp only [K_37 hK, qb_in, qkW, qmW, qnW, true_and, and_true, or_self, true_or, or_true, and_self]; omega)) only [b236_0, b236_18, b236_24, b236_30, b236_37, b236_46, b236_50, b236_56, b236_61, b236_64, b236_69, b236_72, b236_75, b236_90, b236_93, b236_99, b236_102, b236_105, b236_114, b236_120, b236_125, b236_132, b236_136, b236_145, b236_150, b236_153, b236_161, b236_164, b236_167, b236_171, b236_175, b236_182, b236_183, qcall_l, qcall_r, qretn_l, qJ_s, qJ_n, qV0, qEx, ↓qif0, ↓zchk_pos, ↓reduceIte, qput, qWW, qmW, qkW, qnW, K_37 hK, p1, if_pos (show k < n by omega), g1, if_neg c2, q3, Int.reduceEq, q32]
              exact ih f (k + 1) o a g 1 _ _ (by omega) (by omega) (by omega) (by omega) ha (Or.inr rfl)
            · rw [qb_n c3] at q3
              rw [qfo_B4 (fun z => by have := hdg z.1; omega) (fun z => c2 z.1) c3]
              simp (config := { maxSteps := 2000000 }) (disch := first | omega | (simp only [K_37 hK, qb_in, qkW, qmW, qnW, true_and, and_true, or_self, true_or, or_true, and_self]; done) | (simp only [K_37 hK, qb_in, qkW, qmW, qnW, true_and, and_true, or_self, true_or, or_true, and_self]; omega)) only [b236_0, b236_18, b236_24, b236_30, b236_37, b236_46, b236_50, b236_56, b236_61, b236_64, b236_69, b236_72, b236_75, b236_90, b236_93, b236_99, b236_102, b236_105, b236_114, b236_120, b236_125, b236_132, b236_136, b236_145, b236_150, b236_153, b236_161, b236_164, b236_167, b236_171, b236_175, b236_182, b236_183, qcall_l, qcall_r, qretn_l, qJ_s, qJ_n, qV0, qEx, ↓qif0, ↓zchk_pos, ↓reduceIte, qput, qWW, qmW, qkW, qnW, K_37 hK, p1, if_pos (show k < n by omega), g1, if_neg c2, q3, Int.reduceEq, q32]
        · by_cases c1 : t k = 40
          · rw [qfo_A1 c1]
            simp (config := { maxSteps := 2000000 }) (disch := first | omega | (simp only [K_37 hK, qb_in, qkW, qmW, qnW, true_and, and_true, or_self, true_or, or_true, and_self]; done) | (simp only [K_37 hK, qb_in, qkW, qmW, qnW, true_and, and_true, or_self, true_or, or_true, and_self]; omega)) only [b236_0, b236_18, b236_24, b236_30, b236_37, b236_46, b236_50, b236_56, b236_61, b236_64, b236_69, b236_72, b236_75, b236_90, b236_93, b236_99, b236_102, b236_105, b236_114, b236_120, b236_125, b236_132, b236_136, b236_145, b236_150, b236_153, b236_161, b236_164, b236_167, b236_171, b236_175, b236_182, b236_183, qcall_l, qcall_r, qretn_l, qJ_s, qJ_n, qV0, qEx, ↓qif0, ↓zchk_pos, ↓reduceIte, qput, qWW, qmW, qkW, qnW, K_37 hK, p1, if_pos (show k < n by omega), g1, if_pos c1, Int.reduceEq, q32]
            exact ih f (k + 1) (o + 1) a g 1 _ _ (by omega) (by omega) (by omega) (by omega) ha (Or.inr rfl)
          · by_cases c3 : a = 12
            · rw [qfo_A4 c1 (fun z => by have := z.2; omega)]
              simp (config := { maxSteps := 2000000 }) (disch := first | omega | (simp only [K_37 hK, qb_in, qkW, qmW, qnW, true_and, and_true, or_self, true_or, or_true, and_self]; done) | (simp only [K_37 hK, qb_in, qkW, qmW, qnW, true_and, and_true, or_self, true_or, or_true, and_self]; omega)) only [b236_0, b236_18, b236_24, b236_30, b236_37, b236_46, b236_50, b236_56, b236_61, b236_64, b236_69, b236_72, b236_75, b236_90, b236_93, b236_99, b236_102, b236_105, b236_114, b236_120, b236_125, b236_132, b236_136, b236_145, b236_150, b236_153, b236_161, b236_164, b236_167, b236_171, b236_175, b236_182, b236_183, qcall_l, qcall_r, qretn_l, qJ_s, qJ_n, qV0, qEx, ↓qif0, ↓zchk_pos, ↓reduceIte, qput, qWW, qmW, qkW, qnW, K_37 hK, p1, if_pos (show k < n by omega), g1, if_neg c1, if_pos c3, Int.reduceEq, q32]
            · by_cases c2 : qdg (t k)
              · rw [qb_p c2] at q1
                rw [qfo_A2 c2 (by omega)]
                obtain ⟨k', g', f', r, p6, p7, p8, p9, p10⟩ := inner f (k + 1) o (a + 1) 1 (t k) k vu c2 (by omega) (by omega) (by omega) (by omega)
                rw [p6]
                simp (config := { maxSteps := 2000000 }) (disch := first | omega | (simp only [K_37 hK, qb_in, qkW, qmW, qnW, true_and, and_true, or_self, true_or, or_true, and_self]; done) | (simp only [K_37 hK, qb_in, qkW, qmW, qnW, true_and, and_true, or_self, true_or, or_true, and_self]; omega)) only [b236_0, b236_18, b236_24, b236_30, b236_37, b236_46, b236_50, b236_56, b236_61, b236_64, b236_69, b236_72, b236_75, b236_90, b236_93, b236_99, b236_102, b236_105, b236_114, b236_120, b236_125, b236_132, b236_136, b236_145, b236_150, b236_153, b236_161, b236_164, b236_167, b236_171, b236_175, b236_182, b236_183, qcall_l, qcall_r, qretn_l, qJ_s, qJ_n, qV0, qEx, ↓qif0, ↓zchk_pos, ↓reduceIte, qput, qWW, qmW, qkW, qnW, K_37 hK, p1, if_pos (show k < n by omega), g1, if_neg c1, if_neg c3, q1, Int.reduceEq, q32]
                rw [r]
                exact ih f' k' o (a + 1) g' 0 _ _ (by omega) (by omega) p8 (by omega) (by omega) (Or.inl ⟨rfl, fun z1 z2 => Or.inr (p10 z1 z2)⟩)
              · rw [qb_n c2] at q1
                by_cases c4 : qsm (t k)
                · rw [qb_p c4] at q2
                  rw [qfo_A3 c4 (by omega)]
                  have hx : ∀ y3 : zV, zF_236 e 85 [vr 37, vi o, vi (a + 1), y3, vi (k + 1), vi (t k), vi k] [] S = zF_236 e 9 [vr 37, vi o, vi (a + 1), vi 0, vi (k + 1), vu, vu] [] S := by
                    intro y3
                    rw [b236_85]
                    simp (config := { maxSteps := 2000000 }) (disch := first | omega | (simp only [K_37 hK, qb_in, qkW, qmW, qnW, true_and, and_true, or_self, true_or, or_true, and_self]; done) | (simp only [K_37 hK, qb_in, qkW, qmW, qnW, true_and, and_true, or_self, true_or, or_true, and_self]; omega)) only [b236_0, b236_18, b236_24, b236_30, b236_37, b236_46, b236_50, b236_56, b236_61, b236_64, b236_69, b236_72, b236_75, b236_90, b236_93, b236_99, b236_102, b236_105, b236_114, b236_120, b236_125, b236_132, b236_136, b236_145, b236_150, b236_153, b236_161, b236_164, b236_167, b236_171, b236_175, b236_182, b236_183, qcall_l, qcall_r, qretn_l, qJ_s, qJ_n, qV0, qEx, ↓qif0, ↓zchk_pos, ↓reduceIte, qput, qWW, qmW, qkW, qnW, K_37 hK, q1, Int.reduceEq]
                  simp (config := { maxSteps := 2000000 }) (disch := first | omega | (simp only [K_37 hK, qb_in, qkW, qmW, qnW, true_and, and_true, or_self, true_or, or_true, and_self]; done) | (simp only [K_37 hK, qb_in, qkW, qmW, qnW, true_and, and_true, or_self, true_or, or_true, and_self]; omega)) only [b236_0, b236_18, b236_24, b236_30, b236_37, b236_46, b236_50, b236_56, b236_61, b236_64, b236_69, b236_72, b236_75, b236_90, b236_93, b236_99, b236_102, b236_105, b236_114, b236_120, b236_125, b236_132, b236_136, b236_145, b236_150, b236_153, b236_161, b236_164, b236_167, b236_171, b236_175, b236_182, b236_183, qcall_l, qcall_r, qretn_l, qJ_s, qJ_n, qV0, qEx, ↓qif0, ↓zchk_pos, ↓reduceIte, qput, qWW, qmW, qkW, qnW, K_37 hK, p1, if_pos (show k < n by omega), g1, if_neg c1, if_neg c3, q1, q2, Int.reduceEq, q32]
                  rw [hx]
                  exact ih f (k + 1) o (a + 1) 0 0 _ _ (by omega) (by omega) (by omega) (by omega) (by omega) (Or.inl ⟨rfl, fun _ _ => Or.inl (by decide)⟩)
                · rw [qb_n c4] at q2
                  rw [qfo_A4 c1 (fun z => z.1.elim c2 c4)]
                  simp (config := { maxSteps := 2000000 }) (disch := first | omega | (simp only [K_37 hK, qb_in, qkW, qmW, qnW, true_and, and_true, or_self, true_or, or_true, and_self]; done) | (simp only [K_37 hK, qb_in, qkW, qmW, qnW, true_and, and_true, or_self, true_or, or_true, and_self]; omega)) only [b236_0, b236_18, b236_24, b236_30, b236_37, b236_46, b236_50, b236_56, b236_61, b236_64, b236_69, b236_72, b236_75, b236_90, b236_93, b236_99, b236_102, b236_105, b236_114, b236_120, b236_125, b236_132, b236_136, b236_145, b236_150, b236_153, b236_161, b236_164, b236_167, b236_171, b236_175, b236_182, b236_183, qcall_l, qcall_r, qretn_l, qJ_s, qJ_n, qV0, qEx, ↓qif0, ↓zchk_pos, ↓reduceIte, qput, qWW, qmW, qkW, qnW, K_37 hK, p1, if_pos (show k < n by omega), g1, if_neg c1, if_neg c3, q1, q2, Int.reduceEq, q32]
  simp (config := { maxSteps := 2000000 }) (disch := first | omega | (simp only [qb_in, qkW, qmW, qnW, true_and, and_true, or_self, true_or, or_true, and_self]; done) | (simp only [qb_in, qkW, qmW, qnW, true_and, and_true, or_self, true_or, or_true, and_self]; omega)) only [zD_236, b236_0, b236_18, b236_24, b236_30, b236_37, b236_46, b236_50, b236_56, b236_61, b236_64, b236_69, b236_72, b236_75, b236_90, b236_93, b236_99, b236_102, b236_105, b236_114, b236_120, b236_125, b236_132, b236_136, b236_145, b236_150, b236_153, b236_161, b236_164, b236_167, b236_171, b236_175, b236_182, b236_183, qcall_l, qcall_r, qretn_l, qJ_s, qJ_n, qV0, qEx, ↓qif0, ↓zchk_pos, ↓reduceIte, qput, qWW, qmW, qkW, qnW]
  exact lp n.toNat n.toNat 0 0 0 0 1 vu vu (Nat.le_refl _) (by omega) (by omega) (by omega) (by omega) (Or.inr rfl)
