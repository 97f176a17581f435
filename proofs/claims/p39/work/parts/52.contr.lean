/-! Contractions: where one can be written, where one can be read. -/
noncomputable def qc (p : Prop) : Int := @ite Int p (Classical.propDecidable p) 1 0
theorem qc_p {p : Prop} (h : p) : qc p = 1 := @if_pos p (Classical.propDecidable p) h Int 1 0
theorem qc_n {p : Prop} (h : ¬p) : qc p = 0 := @if_neg p (Classical.propDecidable p) h Int 1 0
theorem qc_r (p : Prop) : 0 ≤ qc p ∧ qc p ≤ 1 := by
  by_cases h : p
  · rw [qc_p h]; decide
  · rw [qc_n h]; decide
theorem qc_0 (p : Prop) : (qc p = 0) = ¬p := by
  by_cases h : p
  · rw [qc_p h]
    exact propext ⟨fun e => absurd e (by decide), fun e => absurd h e⟩
  · rw [qc_n h]
    exact propext ⟨fun _ => h, fun _ => rfl⟩
theorem qc_e {p q : Prop} (h : p ↔ q) : qc p = qc q := by rw [propext h]
abbrev qfit (pl fr n all : Int) : Prop := pl = 0 ∨ (pl = 1 ∧ fr = 0 ∧ fr + n = all) ∨ (pl = 2 ∧ fr = 0 ∧ fr + n ≠ all) ∨ (pl = 3 ∧ fr ≠ 0 ∧ fr + n ≠ all) ∨ (pl = 4 ∧ fr ≠ 0 ∧ fr + n = all)
def qcn (sd : Int) : Int := if sd = 0 then 1 else 2
theorem qcn_r (sd : Int) : 1 ≤ qcn sd ∧ qcn sd ≤ 2 := by
  unfold qcn
  split <;> omega
/-- T: 0 letters, 1 grade, 2 place, 3 first cell, 4 second, 5.. letters -/
def qCW (T : Int → Int → Int) (k g : Int) (w : Int → Int) (n E fr : Int) : Prop := T 1 k ≤ g ∧ fr + T 0 k ≤ E ∧ (∀ j, 0 ≤ j → j < T 0 k → T (5 + j) k = w (fr + j)) ∧ qfit (T 2 k) fr (T 0 k) n
def qCR (T : Int → Int → Int) (k g : Int) (r : Int → Int) (all fr : Int) : Prop := T 1 k ≤ g ∧ fr + qcn (T 4 k) ≤ all ∧ r fr = T 3 k ∧ (T 4 k ≠ 0 → r (fr + 1) = T 4 k) ∧ qfit (T 2 k) fr (qcn (T 4 k)) all
def qCt (S : zS) (x : Int) (T : Int → Int → Int) (k : Int) : Prop := zk S x = (23, 0) ∧ zk S (zm S x 0) = (0, 6) ∧ zm S x 1 = T 0 k ∧ zm S x 2 = T 1 k ∧ zm S x 3 = T 2 k ∧ zm S x 4 = T 3 k ∧ zm S x 5 = T 4 k ∧ (0 ≤ T 0 k ∧ T 0 k ≤ 6) ∧ (0 ≤ T 2 k ∧ T 2 k ≤ 4) ∧ ∀ j, 0 ≤ j → j < T 0 k → zm S (zm S x 0) j = T (5 + j) k
def qCo (S : zS) (a N : Int) (T : Int → Int → Int) : Prop := zk S a = (22, 0) ∧ zk S (zm S a 0) = (12, 24) ∧ zm S a 1 = N ∧ (0 ≤ N ∧ N ≤ 24) ∧ ∀ k, 0 ≤ k → k < N → qCt S (zm S (zm S a 0) k) T k
theorem s_fits (d : Nat) (S : zS) (x pl fr n all : Int) (h : 1 ≤ d) (k1 : zk S x = (23, 0)) (p1 : zm S x 3 = pl) (hp : 0 ≤ pl ∧ pl ≤ 4) (hb : 0 ≤ fr ∧ fr ≤ 100 ∧ 0 ≤ n ∧ n ≤ 100) : zD d 36 [vr x, vi fr, vi n, vi all] S = some (.inl (some (vi (qb (qfit pl fr n all)))), S) := by
  obtain ⟨e, rfl, -⟩ := qd h
  simp (config := { maxSteps := 2000000 }) (disch := first | omega | (simp only [k1, qb_in, qkW, qmW, qnW, true_and, and_true, or_self, true_or, or_true, and_self]; done) | (simp only [k1, qb_in, qkW, qmW, qnW, true_and, and_true, or_self, true_or, or_true, and_self]; omega)) only [zD_36, b36_0, b36_4, b36_8, b36_9, b36_18, b36_22, b36_23, b36_60, b36_65, b36_70, b36_74, b36_75, b36_76, b36_81, b36_86, b36_90, b36_91, b36_92, b36_97, b36_102, b36_106, b36_107, b36_108, b36_113, b36_118, b36_122, b36_123, b36_124, i36, w36_29, qcall_l, qcall_r, qretn_l, qJ_s, qJ_n, qV0, qEx, ↓qif0, ↓zchk_pos, ↓reduceIte, qput, qWW, qmW, qkW, qnW, k1, p1, q32]
  unfold qb
  repeat' split
  all_goals first | rfl | (exfalso; omega)
theorem r_fits (d : Nat) (S : zS) (pl fr n all : Int) (h : 1 ≤ d) (hp : 0 ≤ pl ∧ pl ≤ 4) (hb : 0 ≤ fr ∧ fr ≤ 100 ∧ 0 ≤ n ∧ n ≤ 100) : zD d 215 [vi pl, vi fr, vi n, vi all] S = some (.inl (some (vi (qb (qfit pl fr n all)))), S) := by
  obtain ⟨e, rfl, -⟩ := qd h
  have h5 : pl = 0 ∨ pl = 1 ∨ pl = 2 ∨ pl = 3 ∨ pl = 4 := by omega
  by_cases h1 : fr = 0
  · by_cases h2 : fr + n = all
    · rcases h5 with rfl | rfl | rfl | rfl | rfl
      all_goals
        simp (config := { maxSteps := 2000000 }) (disch := first | omega | (simp only [qb_p h1, qb_p h2, Int.reduceEq, false_and, true_and, false_or, true_or, or_true, or_false, not_true_eq_false, not_false_eq_true, qb_T, qb_F, ↓reduceIte, qb_in, qkW, qmW, qnW, true_and, and_true, or_self, true_or, or_true, and_self]; done) | (simp only [qb_p h1, qb_p h2, Int.reduceEq, false_and, true_and, false_or, true_or, or_true, or_false, not_true_eq_false, not_false_eq_true, qb_T, qb_F, ↓reduceIte, qb_in, qkW, qmW, qnW, true_and, and_true, or_self, true_or, or_true, and_self]; omega)) only [zD_215, m215_0, b215_4, b215_8, m215_9, b215_18, b215_22, m215_23, m215_29, m215_34, m215_39, m215_44, m215_49, m215_54, m215_59, m215_64, m215_69, m215_74, m215_79, m215_84, b215_89, b215_93, b215_94, qcall_l, qcall_r, qretn_l, qJ_s, qJ_n, qV0, qEx, ↓qif0, ↓zchk_pos, ↓reduceIte, qput, qWW, qmW, qkW, qnW, q32, if_pos h1, if_pos h2, qb_p h1, qb_p h2, Int.reduceEq, false_and, true_and, false_or, true_or, or_true, or_false, not_true_eq_false, not_false_eq_true, qb_T, qb_F, ↓reduceIte]
        first | rw [qb_p (show qfit _ fr n all by omega)] | rw [qb_n (show ¬ qfit _ fr n all by omega)]
    · rcases h5 with rfl | rfl | rfl | rfl | rfl
      all_goals
        simp (config := { maxSteps := 2000000 }) (disch := first | omega | (simp only [qb_p h1, qb_n h2, Int.reduceEq, false_and, true_and, false_or, true_or, or_true, or_false, not_true_eq_false, not_false_eq_true, qb_T, qb_F, ↓reduceIte, qb_in, qkW, qmW, qnW, true_and, and_true, or_self, true_or, or_true, and_self]; done) | (simp only [qb_p h1, qb_n h2, Int.reduceEq, false_and, true_and, false_or, true_or, or_true, or_false, not_true_eq_false, not_false_eq_true, qb_T, qb_F, ↓reduceIte, qb_in, qkW, qmW, qnW, true_and, and_true, or_self, true_or, or_true, and_self]; omega)) only [zD_215, m215_0, b215_4, b215_8, m215_9, b215_18, b215_22, m215_23, m215_29, m215_34, m215_39, m215_44, m215_49, m215_54, m215_59, m215_64, m215_69, m215_74, m215_79, m215_84, b215_89, b215_93, b215_94, qcall_l, qcall_r, qretn_l, qJ_s, qJ_n, qV0, qEx, ↓qif0, ↓zchk_pos, ↓reduceIte, qput, qWW, qmW, qkW, qnW, q32, if_pos h1, if_neg h2, qb_p h1, qb_n h2, Int.reduceEq, false_and, true_and, false_or, true_or, or_true, or_false, not_true_eq_false, not_false_eq_true, qb_T, qb_F, ↓reduceIte]
        first | rw [qb_p (show qfit _ fr n all by omega)] | rw [qb_n (show ¬ qfit _ fr n all by omega)]
  · by_cases h2 : fr + n = all
    · rcases h5 with rfl | rfl | rfl | rfl | rfl
      all_goals
        simp (config := { maxSteps := 2000000 }) (disch := first | omega | (simp only [qb_n h1, qb_p h2, Int.reduceEq, false_and, true_and, false_or, true_or, or_true, or_false, not_true_eq_false, not_false_eq_true, qb_T, qb_F, ↓reduceIte, qb_in, qkW, qmW, qnW, true_and, and_true, or_self, true_or, or_true, and_self]; done) | (simp only [qb_n h1, qb_p h2, Int.reduceEq, false_and, true_and, false_or, true_or, or_true, or_false, not_true_eq_false, not_false_eq_true, qb_T, qb_F, ↓reduceIte, qb_in, qkW, qmW, qnW, true_and, and_true, or_self, true_or, or_true, and_self]; omega)) only [zD_215, m215_0, b215_4, b215_8, m215_9, b215_18, b215_22, m215_23, m215_29, m215_34, m215_39, m215_44, m215_49, m215_54, m215_59, m215_64, m215_69, m215_74, m215_79, m215_84, b215_89, b215_93, b215_94, qcall_l, qcall_r, qretn_l, qJ_s, qJ_n, qV0, qEx, ↓qif0, ↓zchk_pos, ↓reduceIte, qput, qWW, qmW, qkW, qnW, q32, if_neg h1, if_pos h2, qb_n h1, qb_p h2, Int.reduceEq, false_and, true_and, false_or, true_or, or_true, or_false, not_true_eq_false, not_false_eq_true, qb_T, qb_F, ↓reduceIte]
        first | rw [qb_p (show qfit _ fr n all by omega)] | rw [qb_n (show ¬ qfit _ fr n all by omega)]
    · rcases h5 with rfl | rfl | rfl | rfl | rfl
      all_goals
        simp (config := { maxSteps := 2000000 }) (disch := first | omega | (simp only [qb_n h1, qb_n h2, Int.reduceEq, false_and, true_and, false_or, true_or, or_true, or_false, not_true_eq_false, not_false_eq_true, qb_T, qb_F, ↓reduceIte, qb_in, qkW, qmW, qnW, true_and, and_true, or_self, true_or, or_true, and_self]; done) | (simp only [qb_n h1, qb_n h2, Int.reduceEq, false_and, true_and, false_or, true_or, or_true, or_false, not_true_eq_false, not_false_eq_true, qb_T, qb_F, ↓reduceIte, qb_in, qkW, qmW, qnW, true_and, and_true, or_self, true_or, or_true, and_self]; omega)) only [zD_215, m215_0, b215_4, b215_8, m215_9, b215_18, b215_22, m215_23, m215_29, m215_34, m215_39, m215_44, m215_49, m215_54, m215_59, m215_64, m215_69, m215_74, m215_79, m215_84, b215_89, b215_93, b215_94, qcall_l, qcall_r, qretn_l, qJ_s, qJ_n, qV0, qEx, ↓qif0, ↓zchk_pos, ↓reduceIte, qput, qWW, qmW, qkW, qnW, q32, if_neg h1, if_neg h2, qb_n h1, qb_n h2, Int.reduceEq, false_and, true_and, false_or, true_or, or_true, or_false, not_true_eq_false, not_false_eq_true, qb_T, qb_F, ↓reduceIte]
        first | rw [qb_p (show qfit _ fr n all by omega)] | rw [qb_n (show ¬ qfit _ fr n all by omega)]
theorem s_countCells (d : Nat) (S : zS) (x : Int) (h : 1 ≤ d) (k1 : zk S x = (23, 0)) : zD d 34 [vr x] S = some (.inl (some (vi (qcn (zm S x 5)))), S) := by
  obtain ⟨e, rfl, -⟩ := qd h
  simp (config := { maxSteps := 2000000 }) (disch := first | omega | (simp only [k1, qb_in, qkW, qmW, qnW, true_and, and_true, or_self, true_or, or_true, and_self]; done) | (simp only [k1, qb_in, qkW, qmW, qnW, true_and, and_true, or_self, true_or, or_true, and_self]; omega)) only [zD_34, m34_0, b34_7, b34_11, b34_12, qcall_l, qcall_r, qretn_l, qJ_s, qJ_n, qV0, qEx, ↓qif0, ↓zchk_pos, ↓reduceIte, qput, qWW, qmW, qkW, qnW, k1]
  rfl
theorem s_standsIn (d : Nat) (S : zS) (x k g w b n fr E : Int) (T : Int → Int → Int) (ws : Int → Int) (h : 2 ≤ d) (hx : qCt S x T k) (kw : zk S w = (28, 0)) (pw : zm S w 0 = b) (kb : zk S b = (0, 10)) (pn : zm S w 1 = n) (hn : n ≤ 10) (hE : E ≤ n) (hf : 0 ≤ fr ∧ fr ≤ 20) (hw : ∀ j, 0 ≤ j → j < n → zm S b j = ws j) :
    zD d 37 [vr x, vr w, vi fr, vi E, vi g] S = some (.inl (some (vi (qc (qCW T k g ws n E fr)))), S) := by
  obtain ⟨e, rfl, h1⟩ := qd h
  obtain ⟨k1, k2, x1, x2, x3, x4, x5, b1, b2, hl⟩ := hx
  by_cases c1 : g < T 1 k
  · rw [qc_n (fun q => by have := q.1; omega)]
    simp (config := { maxSteps := 2000000 }) (disch := first | omega | (simp only [k1, qb_in, qkW, qmW, qnW, true_and, and_true, or_self, true_or, or_true, and_self]; done) | (simp only [k1, qb_in, qkW, qmW, qnW, true_and, and_true, or_self, true_or, or_true, and_self]; omega)) only [zD_37, b37_0, b37_9, b37_13, b37_23, b37_31, b37_33, b37_45, b37_61, b37_64, b37_66, b37_72, b37_85, qcall_l, qcall_r, qretn_l, qJ_s, qJ_n, qV0, qEx, ↓qif0, ↓zchk_pos, ↓reduceIte, qput, qWW, qmW, qkW, qnW, k1, x2, if_pos c1]
  · by_cases c2 : E < fr + T 0 k
    · rw [qc_n (fun q => by have := q.2.1; omega)]
      simp (config := { maxSteps := 2000000 }) (disch := first | omega | (simp only [k1, qb_in, qkW, qmW, qnW, true_and, and_true, or_self, true_or, or_true, and_self]; done) | (simp only [k1, qb_in, qkW, qmW, qnW, true_and, and_true, or_self, true_or, or_true, and_self]; omega)) only [zD_37, b37_0, b37_9, b37_13, b37_23, b37_31, b37_33, b37_45, b37_61, b37_64, b37_66, b37_72, b37_85, qcall_l, qcall_r, qretn_l, qJ_s, qJ_n, qV0, qEx, ↓qif0, ↓zchk_pos, ↓reduceIte, qput, qWW, qmW, qkW, qnW, k1, x1, x2, if_neg c1, if_neg (show ¬ fr < 0 by omega), if_pos c2, q32]
    · have lp : ∀ (f : Nat) (j : Int) (y3 y4 : zV), 0 ≤ j → j + f = T 0 k → (∀ i, 0 ≤ i → i < j → T (5 + i) k = ws (fr + i)) → zF_37 e 36 [vr x, vr w, vi fr, y3, y4, vi j] [] S = some (.inl (some (vi (qc (qCW T k g ws n E fr)))), S) := by
        intro f
        induction f with
        | zero =>
          intro j y3 y4 h2 h3 h4
          have e0 : qc (qCW T k g ws n E fr) = qb (qfit (T 2 k) fr (T 0 k) n) := by
            by_cases q : qfit (T 2 k) fr (T 0 k) n
            · rw [qb_p q, qc_p ⟨by omega, by omega, fun i h5 h6 => h4 i h5 (by omega), q⟩]
            · rw [qb_n q, qc_n fun z => q z.2.2.2]
          have ft := s_fits e S x (T 2 k) fr (T 0 k) n (by omega) k1 x3 b2 (by omega)
          rw [b37_36, e0]
          simp (config := { maxSteps := 2000000 }) (disch := first | omega | (simp only [k1, kw, qb_in, qkW, qmW, qnW, true_and, and_true, or_self, true_or, or_true, and_self]; done) | (simp only [k1, kw, qb_in, qkW, qmW, qnW, true_and, and_true, or_self, true_or, or_true, and_self]; omega)) only [b37_0, b37_9, b37_13, b37_23, b37_31, b37_33, b37_45, b37_61, b37_64, b37_66, b37_72, b37_85, qcall_l, qcall_r, qretn_l, qJ_s, qJ_n, qV0, qEx, ↓qif0, ↓zchk_pos, ↓reduceIte, qput, qWW, qmW, qkW, qnW, k1, x1, kw, pn, if_neg (show ¬ j < T 0 k by omega), ft]
        | succ f ih =>
          intro j y3 y4 h2 h3 h4
          have g1 := hl j h2 (by omega)
          have g2 := hw (fr + j) (by omega) (by omega)
          rw [b37_36]
          by_cases c3 : ws (fr + j) = T (5 + j) k
          · simp (config := { maxSteps := 2000000 }) (disch := first | omega | (simp only [k1, k2, kw, kb, pw, q32, qb_in, qkW, qmW, qnW, true_and, and_true, or_self, true_or, or_true, and_self]; done) | (simp only [k1, k2, kw, kb, pw, q32, qb_in, qkW, qmW, qnW, true_and, and_true, or_self, true_or, or_true, and_self]; omega)) only [b37_0, b37_9, b37_13, b37_23, b37_31, b37_33, b37_45, b37_61, b37_64, b37_66, b37_72, b37_85, qcall_l, qcall_r, qretn_l, qJ_s, qJ_n, qV0, qEx, ↓qif0, ↓zchk_pos, ↓reduceIte, qput, qWW, qmW, qkW, qnW, k1, k2, kw, kb, pw, x1, if_pos (show j < T 0 k by omega), q32, g1, g2, if_pos c3]
            refine ih (j + 1) _ _ (by omega) (by omega) fun i h5 h6 => ?_
            by_cases c4 : i = j
            · rw [c4]; exact c3.symm
            · exact h4 i h5 (by omega)
          · rw [qc_n fun z => c3 (z.2.2.1 j h2 (by omega)).symm]
            simp (config := { maxSteps := 2000000 }) (disch := first | omega | (simp only [k1, k2, kw, kb, pw, q32, qb_in, qkW, qmW, qnW, true_and, and_true, or_self, true_or, or_true, and_self]; done) | (simp only [k1, k2, kw, kb, pw, q32, qb_in, qkW, qmW, qnW, true_and, and_true, or_self, true_or, or_true, and_self]; omega)) only [b37_0, b37_9, b37_13, b37_23, b37_31, b37_33, b37_45, b37_61, b37_64, b37_66, b37_72, b37_85, qcall_l, qcall_r, qretn_l, qJ_s, qJ_n, qV0, qEx, ↓qif0, ↓zchk_pos, ↓reduceIte, qput, qWW, qmW, qkW, qnW, k1, k2, kw, kb, pw, x1, if_pos (show j < T 0 k by omega), q32, g1, g2, if_neg c3]
      simp (config := { maxSteps := 2000000 }) (disch := first | omega | (simp only [k1, kw, qb_in, qkW, qmW, qnW, true_and, and_true, or_self, true_or, or_true, and_self]; done) | (simp only [k1, kw, qb_in, qkW, qmW, qnW, true_and, and_true, or_self, true_or, or_true, and_self]; omega)) only [zD_37, b37_0, b37_9, b37_13, b37_23, b37_31, b37_33, b37_45, b37_61, b37_64, b37_66, b37_72, b37_85, qcall_l, qcall_r, qretn_l, qJ_s, qJ_n, qV0, qEx, ↓qif0, ↓zchk_pos, ↓reduceIte, qput, qWW, qmW, qkW, qnW, k1, x1, x2, kw, pn, if_neg c1, if_neg (show ¬ fr < 0 by omega), if_neg c2, if_neg (show ¬ n < E by omega), q32]
      exact lp (T 0 k).toNat 0 _ _ (by omega) (by omega) fun i h5 h6 => by omega
theorem s_isReadIn (d : Nat) (S : zS) (x k g c bg en fr : Int) (T : Int → Int → Int) (r : Int → Int) (h : 2 ≤ d) (hx : qCt S x T k) (kc : zk S c = (0, 16)) (hb : 0 ≤ bg ∧ bg ≤ fr ∧ fr < en ∧ en ≤ 16) (hr : ∀ j, 0 ≤ j → bg + j < en → zm S c (bg + j) = r j) :
    zD d 38 [vr x, vr c, vi bg, vi en, vi fr, vi g] S = some (.inl (some (vi (qc (qCR T k g r (en - bg) (fr - bg))))), S) := by
  obtain ⟨e, rfl, h1⟩ := qd h
  obtain ⟨k1, k2, x1, x2, x3, x4, x5, b1, b2, hl⟩ := hx
  have cc := s_countCells e S x (by omega) k1
  rw [x5] at cc
  have hcn := qcn_r (T 4 k)
  by_cases c1 : g < T 1 k
  · rw [qc_n (fun q => by have := q.1; omega)]
    simp (config := { maxSteps := 2000000 }) (disch := first | omega | (simp only [k1, qb_in, qkW, qmW, qnW, true_and, and_true, or_self, true_or, or_true, and_self]; done) | (simp only [k1, qb_in, qkW, qmW, qnW, true_and, and_true, or_self, true_or, or_true, and_self]; omega)) only [zD_38, b38_0, b38_4, b38_15, b38_20, b38_29, b38_35, b38_37, b38_48, b38_54, b38_67, b38_69, b38_82, qcall_l, qcall_r, qretn_l, qJ_s, qJ_n, qV0, qEx, ↓qif0, ↓zchk_pos, ↓reduceIte, qput, qWW, qmW, qkW, qnW, k1, x2, cc, if_pos c1]
  · by_cases c2 : en < fr + qcn (T 4 k)
    · rw [qc_n (fun q => by have := q.2.1; omega)]
      simp (config := { maxSteps := 2000000 }) (disch := first | omega | (simp only [k1, qb_in, qkW, qmW, qnW, true_and, and_true, or_self, true_or, or_true, and_self]; done) | (simp only [k1, qb_in, qkW, qmW, qnW, true_and, and_true, or_self, true_or, or_true, and_self]; omega)) only [zD_38, b38_0, b38_4, b38_15, b38_20, b38_29, b38_35, b38_37, b38_48, b38_54, b38_67, b38_69, b38_82, qcall_l, qcall_r, qretn_l, qJ_s, qJ_n, qV0, qEx, ↓qif0, ↓zchk_pos, ↓reduceIte, qput, qWW, qmW, qkW, qnW, k1, x2, cc, if_neg c1, if_neg (show ¬ fr < 0 by omega), if_pos c2, q32]
    · have g1 := hr (fr - bg) (by omega) (by omega)
      rw [show bg + (fr - bg) = fr by omega] at g1
      have ft := s_fits e S x (T 2 k) (fr - bg) (qcn (T 4 k)) (en - bg) (by omega) k1 x3 b2 (by omega)
      have c3 : ¬ 16 < en := by omega
      by_cases c4 : r (fr - bg) = T 3 k
      · by_cases c5 : T 4 k = 0
        · have e0 : qc (qCR T k g r (en - bg) (fr - bg)) = qb (qfit (T 2 k) (fr - bg) (qcn (T 4 k)) (en - bg)) := by
            by_cases q : qfit (T 2 k) (fr - bg) (qcn (T 4 k)) (en - bg)
            · rw [qb_p q, qc_p ⟨by omega, by omega, c4, fun z => absurd c5 z, q⟩]
            · rw [qb_n q, qc_n fun z => q z.2.2.2.2]
          have q1 : ¬ qcn (T 4 k) = 2 := by unfold qcn; rw [if_pos c5]; decide
          rw [e0]
          simp (config := { maxSteps := 2000000 }) (disch := first | omega | (simp only [k1, kc, qb_in, qkW, qmW, qnW, true_and, and_true, or_self, true_or, or_true, and_self]; done) | (simp only [k1, kc, qb_in, qkW, qmW, qnW, true_and, and_true, or_self, true_or, or_true, and_self]; omega)) only [zD_38, b38_0, b38_4, b38_15, b38_20, b38_29, b38_35, b38_37, b38_48, b38_54, b38_67, b38_69, b38_82, qcall_l, qcall_r, qretn_l, qJ_s, qJ_n, qV0, qEx, ↓qif0, ↓zchk_pos, ↓reduceIte, qput, qWW, qmW, qkW, qnW, k1, kc, x2, x4, cc, if_neg c1, if_neg (show ¬ fr < 0 by omega), if_neg c2, if_neg c3, g1, if_pos c4, if_neg q1, ft, q32]
        · have q1 : qcn (T 4 k) = 2 := by unfold qcn; rw [if_neg c5]
          have g2 := hr (fr - bg + 1) (by omega) (by omega)
          rw [show bg + (fr - bg + 1) = fr + 1 by omega] at g2
          rw [q1] at ft c2 cc
          by_cases c6 : r (fr - bg + 1) = T 4 k
          · have e0 : qc (qCR T k g r (en - bg) (fr - bg)) = qb (qfit (T 2 k) (fr - bg) 2 (en - bg)) := by
              by_cases q : qfit (T 2 k) (fr - bg) 2 (en - bg)
              · rw [qb_p q, qc_p ⟨by omega, by omega, c4, fun _ => c6, by rw [q1]; exact q⟩]
              · rw [qb_n q, qc_n fun z => q (by have := z.2.2.2.2; rw [q1] at this; exact this)]
            rw [e0]
            simp (config := { maxSteps := 2000000 }) (disch := first | omega | (simp only [k1, kc, q32, qb_in, qkW, qmW, qnW, true_and, and_true, or_self, true_or, or_true, and_self]; done) | (simp only [k1, kc, q32, qb_in, qkW, qmW, qnW, true_and, and_true, or_self, true_or, or_true, and_self]; omega)) only [zD_38, b38_0, b38_4, b38_15, b38_20, b38_29, b38_35, b38_37, b38_48, b38_54, b38_67, b38_69, b38_82, qcall_l, qcall_r, qretn_l, qJ_s, qJ_n, qV0, qEx, ↓qif0, ↓zchk_pos, ↓reduceIte, qput, qWW, qmW, qkW, qnW, k1, kc, x2, x4, x5, cc, if_neg c1, if_neg (show ¬ fr < 0 by omega), if_neg c2, if_neg c3, g1, g2, if_pos c4, if_pos c6, Int.reduceEq, ft, q32]
          · rw [qc_n fun z => c6 (z.2.2.2.1 c5)]
            simp (config := { maxSteps := 2000000 }) (disch := first | omega | (simp only [k1, kc, q32, qb_in, qkW, qmW, qnW, true_and, and_true, or_self, true_or, or_true, and_self]; done) | (simp only [k1, kc, q32, qb_in, qkW, qmW, qnW, true_and, and_true, or_self, true_or, or_true, and_self]; omega)) only [zD_38, b38_0, b38_4, b38_15, b38_20, b38_29, b38_35, b38_37, b38_48, b38_54, b38_67, b38_69, b38_82, qcall_l, qcall_r, qretn_l, qJ_s, qJ_n, qV0, qEx, ↓qif0, ↓zchk_pos, ↓reduceIte, qput, qWW, qmW, qkW, qnW, k1, kc, x2, x4, x5, cc, if_neg c1, if_neg (show ¬ fr < 0 by omega), if_neg c2, if_neg c3, g1, g2, if_pos c4, if_neg c6, Int.reduceEq, q32]
      · rw [qc_n fun z => c4 z.2.2.1]
        simp (config := { maxSteps := 2000000 }) (disch := first | omega | (simp only [k1, kc, qb_in, qkW, qmW, qnW, true_and, and_true, or_self, true_or, or_true, and_self]; done) | (simp only [k1, kc, qb_in, qkW, qmW, qnW, true_and, and_true, or_self, true_or, or_true, and_self]; omega)) only [zD_38, b38_0, b38_4, b38_15, b38_20, b38_29, b38_35, b38_37, b38_48, b38_54, b38_67, b38_69, b38_82, qcall_l, qcall_r, qretn_l, qJ_s, qJ_n, qV0, qEx, ↓qif0, ↓zchk_pos, ↓reduceIte, qput, qWW, qmW, qkW, qnW, k1, kc, x2, x4, cc, if_neg c1, if_neg (show ¬ fr < 0 by omega), if_neg c2, if_neg c3, g1, if_neg c4, q32]
def qbs (cw cnt : Int → Int) : Nat → Int → Int → Int → Int
  | 0, _, best, _ => best
  | f + 1, k, best, most => if most < cnt k ∧ cw k ≠ 0 then qbs cw cnt f (k + 1) k (cnt k) else qbs cw cnt f (k + 1) best most
theorem s_longestFor (d : Nat) (S : zS) (a N g w b n fr E : Int) (T : Int → Int → Int) (ws : Int → Int) (h : 3 ≤ d) (ha : qCo S a N T) (kw : zk S w = (28, 0)) (pw : zm S w 0 = b) (kb : zk S b = (0, 10)) (pn : zm S w 1 = n) (hn : n ≤ 10) (hE : E ≤ n) (hf : 0 ≤ fr ∧ fr ≤ 20) (hw : ∀ j, 0 ≤ j → j < n → zm S b j = ws j) :
    zD d 24 [vr a, vr w, vi fr, vi E, vi g] S = some (.inl (some (vi (qbs (fun k => qc (qCW T k g ws n E fr)) (T 0) N.toNat 0 (-1) 0))), S) := by
  obtain ⟨e, rfl, h1⟩ := qd h
  obtain ⟨k1, k2, x1, hN, hc⟩ := ha
  have lp : ∀ (f : Nat) (k best most : Int), 0 ≤ k → k + f = N → zF_24 e 9 [vr a, vr w, vi fr, vi E, vi g, vi best, vi most, vi k] [] S = some (.inl (some (vi (qbs (fun k => qc (qCW T k g ws n E fr)) (T 0) f k best most))), S) := by
    intro f
    induction f with
    | zero =>
      intro k best most h2 h3
      rw [b24_9]
      simp (config := { maxSteps := 2000000 }) (disch := first | omega | (simp only [k1, qb_in, qkW, qmW, qnW, true_and, and_true, or_self, true_or, or_true, and_self]; done) | (simp only [k1, qb_in, qkW, qmW, qnW, true_and, and_true, or_self, true_or, or_true, and_self]; omega)) only [b24_0, b24_18, b24_33, b24_48, b24_51, b24_67, b24_73, qcall_l, qcall_r, qretn_l, qJ_s, qJ_n, qV0, qEx, ↓qif0, ↓zchk_pos, ↓reduceIte, qput, qWW, qmW, qkW, qnW, k1, x1, if_neg (show ¬ k < N by omega), qbs]
    | succ f ih =>
      intro k best most h2 h3
      have hx := hc k h2 (by omega)
      have st := s_standsIn e S (zm S (zm S a 0) k) k g w b n fr E T ws (by omega) hx kw pw kb pn hn hE hf hw
      obtain ⟨y1, y2, z1, -⟩ := hx
      rw [b24_9]
      simp only [qbs]
      by_cases c1 : most < T 0 k
      · by_cases c2 : qc (qCW T k g ws n E fr) = 0
        · rw [if_neg (show ¬ (most < T 0 k ∧ qc (qCW T k g ws n E fr) ≠ 0) from fun q => q.2 c2)]
          rw [c2] at st
          simp (config := { maxSteps := 2000000 }) (disch := first | omega | (simp only [k1, k2, y1, qb_in, qkW, qmW, qnW, true_and, and_true, or_self, true_or, or_true, and_self]; done) | (simp only [k1, k2, y1, qb_in, qkW, qmW, qnW, true_and, and_true, or_self, true_or, or_true, and_self]; omega)) only [b24_0, b24_18, b24_33, b24_48, b24_51, b24_67, b24_73, qcall_l, qcall_r, qretn_l, qJ_s, qJ_n, qV0, qEx, ↓qif0, ↓zchk_pos, ↓reduceIte, qput, qWW, qmW, qkW, qnW, k1, k2, x1, y1, z1, if_pos (show k < N by omega), if_pos c1, st, q32]
          exact ih (k + 1) _ _ (by omega) (by omega)
        · rw [if_pos (show most < T 0 k ∧ qc (qCW T k g ws n E fr) ≠ 0 from ⟨c1, c2⟩)]
          simp (config := { maxSteps := 2000000 }) (disch := first | omega | (simp only [k1, k2, y1, qb_in, qkW, qmW, qnW, true_and, and_true, or_self, true_or, or_true, and_self]; done) | (simp only [k1, k2, y1, qb_in, qkW, qmW, qnW, true_and, and_true, or_self, true_or, or_true, and_self]; omega)) only [b24_0, b24_18, b24_33, b24_48, b24_51, b24_67, b24_73, qcall_l, qcall_r, qretn_l, qJ_s, qJ_n, qV0, qEx, ↓qif0, ↓zchk_pos, ↓reduceIte, qput, qWW, qmW, qkW, qnW, k1, k2, x1, y1, z1, if_pos (show k < N by omega), if_pos c1, st, if_neg c2, q32]
          exact ih (k + 1) _ _ (by omega) (by omega)
      · rw [if_neg (show ¬ (most < T 0 k ∧ qc (qCW T k g ws n E fr) ≠ 0) from fun q => c1 q.1)]
        simp (config := { maxSteps := 2000000 }) (disch := first | omega | (simp only [k1, k2, y1, qb_in, qkW, qmW, qnW, true_and, and_true, or_self, true_or, or_true, and_self]; done) | (simp only [k1, k2, y1, qb_in, qkW, qmW, qnW, true_and, and_true, or_self, true_or, or_true, and_self]; omega)) only [b24_0, b24_18, b24_33, b24_48, b24_51, b24_67, b24_73, qcall_l, qcall_r, qretn_l, qJ_s, qJ_n, qV0, qEx, ↓qif0, ↓zchk_pos, ↓reduceIte, qput, qWW, qmW, qkW, qnW, k1, k2, x1, y1, z1, if_pos (show k < N by omega), if_neg c1, q32]
        exact ih (k + 1) _ _ (by omega) (by omega)
  simp (config := { maxSteps := 2000000 }) (disch := first | omega | (simp only [qb_in, qkW, qmW, qnW, true_and, and_true, or_self, true_or, or_true, and_self]; done) | (simp only [qb_in, qkW, qmW, qnW, true_and, and_true, or_self, true_or, or_true, and_self]; omega)) only [zD_24, b24_0, b24_18, b24_33, b24_48, b24_51, b24_67, b24_73, qcall_l, qcall_r, qretn_l, qJ_s, qJ_n, qV0, qEx, ↓qif0, ↓zchk_pos, ↓reduceIte, qput, qWW, qmW, qkW, qnW]
  exact lp N.toNat 0 (-1) 0 (by omega) (by omega)
theorem s_longestIn (d : Nat) (S : zS) (a N g c bg en fr : Int) (T : Int → Int → Int) (r : Int → Int) (h : 3 ≤ d) (ha : qCo S a N T) (kc : zk S c = (0, 16)) (hb : 0 ≤ bg ∧ bg ≤ fr ∧ fr < en ∧ en ≤ 16) (hr : ∀ j, 0 ≤ j → bg + j < en → zm S c (bg + j) = r j) :
    zD d 25 [vr a, vr c, vi bg, vi en, vi fr, vi g] S = some (.inl (some (vi (qbs (fun k => qc (qCR T k g r (en - bg) (fr - bg))) (fun k => qcn (T 4 k)) N.toNat 0 (-1) 0))), S) := by
  obtain ⟨e, rfl, h1⟩ := qd h
  obtain ⟨k1, k2, x1, hN, hc⟩ := ha
  have lp : ∀ (f : Nat) (k best most : Int) (y9 : zV), 0 ≤ k → k + f = N → zF_25 e 9 [vr a, vr c, vi bg, vi en, vi fr, vi g, vi best, vi most, vi k, y9] [] S = some (.inl (some (vi (qbs (fun k => qc (qCR T k g r (en - bg) (fr - bg))) (fun k => qcn (T 4 k)) f k best most))), S) := by
    intro f
    induction f with
    | zero =>
      intro k best most y9 h2 h3
      rw [b25_9]
      simp (config := { maxSteps := 2000000 }) (disch := first | omega | (simp only [k1, qb_in, qkW, qmW, qnW, true_and, and_true, or_self, true_or, or_true, and_self]; done) | (simp only [k1, qb_in, qkW, qmW, qnW, true_and, and_true, or_self, true_or, or_true, and_self]; omega)) only [b25_0, b25_18, b25_28, b25_37, b25_54, b25_57, b25_65, b25_71, qcall_l, qcall_r, qretn_l, qJ_s, qJ_n, qV0, qEx, ↓qif0, ↓zchk_pos, ↓reduceIte, qput, qWW, qmW, qkW, qnW, k1, x1, if_neg (show ¬ k < N by omega), qbs]
    | succ f ih =>
      intro k best most y9 h2 h3
      have hx := hc k h2 (by omega)
      have st := s_isReadIn e S (zm S (zm S a 0) k) k g c bg en fr T r (by omega) hx kc hb hr
      obtain ⟨y1, y2, z1, z2, z3, z4, z5, -⟩ := hx
      have cc := s_countCells e S (zm S (zm S a 0) k) (by omega) y1
      rw [z5] at cc
      rw [b25_9]
      simp only [qbs]
      by_cases c1 : most < qcn (T 4 k)
      · by_cases c2 : qc (qCR T k g r (en - bg) (fr - bg)) = 0
        · rw [if_neg (show ¬ (most < qcn (T 4 k) ∧ qc (qCR T k g r (en - bg) (fr - bg)) ≠ 0) from fun q => q.2 c2)]
          rw [c2] at st
          simp (config := { maxSteps := 2000000 }) (disch := first | omega | (simp only [k1, k2, y1, qb_in, qkW, qmW, qnW, true_and, and_true, or_self, true_or, or_true, and_self]; done) | (simp only [k1, k2, y1, qb_in, qkW, qmW, qnW, true_and, and_true, or_self, true_or, or_true, and_self]; omega)) only [b25_0, b25_18, b25_28, b25_37, b25_54, b25_57, b25_65, b25_71, qcall_l, qcall_r, qretn_l, qJ_s, qJ_n, qV0, qEx, ↓qif0, ↓zchk_pos, ↓reduceIte, qput, qWW, qmW, qkW, qnW, k1, k2, x1, y1, cc, if_pos (show k < N by omega), if_pos c1, st, q32]
          exact ih (k + 1) _ _ _ (by omega) (by omega)
        · rw [if_pos (show most < qcn (T 4 k) ∧ qc (qCR T k g r (en - bg) (fr - bg)) ≠ 0 from ⟨c1, c2⟩)]
          simp (config := { maxSteps := 2000000 }) (disch := first | omega | (simp only [k1, k2, y1, qb_in, qkW, qmW, qnW, true_and, and_true, or_self, true_or, or_true, and_self]; done) | (simp only [k1, k2, y1, qb_in, qkW, qmW, qnW, true_and, and_true, or_self, true_or, or_true, and_self]; omega)) only [b25_0, b25_18, b25_28, b25_37, b25_54, b25_57, b25_65, b25_71, qcall_l, qcall_r, qretn_l, qJ_s, qJ_n, qV0, qEx, ↓qif0, ↓zchk_pos, ↓reduceIte, qput, qWW, qmW, qkW, qnW, k1, k2, x1, y1, cc, if_pos (show k < N by omega), if_pos c1, st, if_neg c2, q32]
          exact ih (k + 1) _ _ _ (by omega) (by omega)
      · rw [if_neg (show ¬ (most < qcn (T 4 k) ∧ qc (qCR T k g r (en - bg) (fr - bg)) ≠ 0) from fun q => c1 q.1)]
        simp (config := { maxSteps := 2000000 }) (disch := first | omega | (simp only [k1, k2, y1, qb_in, qkW, qmW, qnW, true_and, and_true, or_self, true_or, or_true, and_self]; done) | (simp only [k1, k2, y1, qb_in, qkW, qmW, qnW, true_and, and_true, or_self, true_or, or_true, and_self]; omega)) only [b25_0, b25_18, b25_28, b25_37, b25_54, b25_57, b25_65, b25_71, qcall_l, qcall_r, qretn_l, qJ_s, qJ_n, qV0, qEx, ↓qif0, ↓zchk_pos, ↓reduceIte, qput, qWW, qmW, qkW, qnW, k1, k2, x1, y1, cc, if_pos (show k < N by omega), if_neg c1, q32]
        exact ih (k + 1) _ _ _ (by omega) (by omega)
  simp (config := { maxSteps := 2000000 }) (disch := first | omega | (simp only [qb_in, qkW, qmW, qnW, true_and, and_true, or_self, true_or, or_true, and_self]; done) | (simp only [qb_in, qkW, qmW, qnW, true_and, and_true, or_self, true_or, or_true, and_self]; omega)) only [zD_25, b25_0, b25_18, b25_28, b25_37, b25_54, b25_57, b25_65, b25_71, qcall_l, qcall_r, qretn_l, qJ_s, qJ_n, qV0, qEx, ↓qif0, ↓zchk_pos, ↓reduceIte, qput, qWW, qmW, qkW, qnW]
  exact lp N.toNat 0 (-1) 0 _ (by omega) (by omega)
