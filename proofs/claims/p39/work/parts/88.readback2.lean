/-! The class says that its cells read back as the tree. -/
theorem s_readCellsOf (d : Nat) (S : zS) (fld : Int) (x : qTree) (h : 181 ≤ d) (hK : qK S) (hP : qFp (zm S) 23) (hP2 : qFp (zm S) 30) (hL : qLt (zm S)) (hfl : fld = 0 ∨ fld = 1) (hw : qwf x) (hz : qsz x ≤ 23) (hl : qCl (zm S) 23 (qpr fld x)) :
    ∃ m', zD d 55 [vr 30, vr 23, vi fld] S = some (.inl (some (vi 1)), qW S m') ∧ qHo m' 30 x ∧ (∀ a, a < 30 ∨ 35 < a → m' a = zm S a) ∧ ∀ j, j ≠ 1 → j ≠ 2 → j ≠ 3 → j ≠ 8 → j ≠ 9 → m' 30 j = zm S 30 j := by
  obtain ⟨e, rfl, h2⟩ := qd h
  obtain ⟨l1, l2⟩ := hl
  have l2 : qA (zm S) 29 (qpr fld x) := l2
  have lc := qx_cells fld hfl x hw
  have ll := qpr_l fld x hw
  have le : (qxps fld x).length = (qpr fld x).length := by rw [← lc, qxss_l]
  have lp : ∀ (B A : List Int) (m : Int → Int → Int) (x5 x6 x7 : zV), A ++ B = qpr fld x → (∀ a, a ≠ 30 → a ≠ 31 → m a = zm S a) → (∀ j, j ≠ 1 → m 30 j = zm S 30 j) → m 30 1 = A.length → qA m 31 (qxss fld 0 A) → (qxsa 0 A = 0 ∨ qxsa 0 A = 1) →
      ∃ m', zF_55 e 10 [vr 30, vr 23, vi fld, vi (qxsa 0 A), vi A.length, x5, x6, x7] [] (qW S m) = some (.inl (some (vi 1)), qW S m') ∧ qHo m' 30 x ∧ (∀ a, a < 30 ∨ 35 < a → m' a = zm S a) ∧ ∀ j, j ≠ 1 → j ≠ 2 → j ≠ 3 → j ≠ 8 → j ≠ 9 → m' 30 j = zm S 30 j := by
    intro B
    induction B with
    | nil =>
      intro A m x5 x6 x7 hA f1 f2 m1 ms ha
      rw [List.append_nil] at hA
      have hPm : qFp m 30 := by
        obtain ⟨q0, q4, q5, q6, q7, q10⟩ := hP2
        refine ⟨?_, ?_, ?_, ?_, ?_, ?_⟩
        all_goals (rw [f2 _ (by decide)]; assumption)
      rw [hA, lc] at ms
      obtain ⟨m', r, p2, p3, p4⟩ := s_readSymbols e (qW S m) 30 (qnth (qxps fld x)) (qxps fld x).length fld x (by omega) (qFk_30 hK) (by omega) (fun i i1 i2 => by
        have := qnth_m (qxps fld x) i ⟨i1, i2⟩
        rw [← lc] at this ⊢
        exact qxss_r fld _ 0 _ this) hfl hPm (by show m 30 1 = _; rw [m1, hA, le]) (fun i i1 i2 => by show m 31 i = _; rw [qA_n ms i i1 i2]) (qx_read fld hfl x hw hz) hw (by omega)
      have g : zm S 23 11 = A.length := by rw [l1, hA]
      have e23 : m 23 = zm S 23 := f1 23 (by decide) (by decide)
      refine ⟨m', ?_, p2, fun a ha => ?_, fun j j1 j2 j3 j8 j9 => ?_⟩
      · rw [b55_10]
        simp (config := { maxSteps := 2000000 }) (disch := first | omega | (simp only [K_23 hK, K_30 hK, qb_in, qkW, qmW, qnW, true_and, and_true, or_self, true_or, or_true, and_self]; done) | (simp only [K_23 hK, K_30 hK, qb_in, qkW, qmW, qnW, true_and, and_true, or_self, true_or, or_true, and_self]; omega)) only [b55_0, b55_19, b55_33, b55_40, b55_49, b55_53, b55_59, b55_63, b55_64, b55_69, b55_75, b55_85, b55_88, b55_94, b55_104, b55_107, b55_114, b55_117, b55_123, b55_128, qcall_l, qcall_r, qretn_l, qJ_s, qJ_n, qV0, qEx, ↓qif0, ↓zchk_pos, ↓reduceIte, qput, qWW, qmW, qkW, qnW, K_23 hK, K_30 hK, e23, g, Int.lt_irrefl, r, Int.reduceLE, true_and, and_self]
      · rw [p3 a (by omega) (by omega)]
        exact f1 a (by omega) (by omega)
      · rw [p4 j j2 j3 j8 j9]
        exact f2 j j1
    | cons c B ih =>
      intro A m x5 x6 x7 hA f1 f2 m1 ms ha
      have hPm : qFp m 30 := by
        obtain ⟨q0, q4, q5, q6, q7, q10⟩ := hP2
        refine ⟨?_, ?_, ?_, ?_, ?_, ?_⟩
        all_goals (rw [f2 _ (by decide)]; assumption)
      have hPm2 : qFp m 23 := by
        obtain ⟨q0, q4, q5, q6, q7, q10⟩ := hP
        have e23 : m 23 = zm S 23 := f1 23 (by decide) (by decide)
        refine ⟨?_, ?_, ?_, ?_, ?_, ?_⟩
        all_goals (rw [e23]; assumption)
      have hlen : (A.length : Int) + 1 + B.length = (qpr fld x).length := by rw [← hA, List.length_append, List.length_cons]; omega
      have hc : m 29 A.length = c := by
        rw [f1 29 (by decide) (by decide)]
        rw [← hA] at l2
        exact qA_e l2
      have st := s_readOne e S fld (qxsa 0 A) c A.length m x5 x6 x7 (by omega) hK hPm2 hPm (fun q hq => by rw [f1 2 (by decide) (by decide)]; exact hL q hq) hfl (by omega) m1 (by rw [f1 23 (by decide) (by decide), l1]; omega) hc ha
      have eA : qxsa 0 (A ++ [c]) = qxsn (qxsa 0 A) c := by rw [qxsa_a]; rfl
      have eL : (((A ++ [c]).length : Nat) : Int) = (A.length : Int) + 1 := by rw [List.length_append]; rfl
      obtain ⟨m', r, p2⟩ := ih (A ++ [c]) (qu (qu m 31 A.length (qxsb fld (qxsa 0 A) c)) 30 1 (A.length + 1)) vu vu vu (by rw [List.append_assoc]; exact hA) (fun a a1 a2 => by rw [qu_o _ _ _ _ _ a1, qu_o _ _ _ _ _ a2, f1 a a1 a2]) (fun j j1 => by rw [qu_i _ _ _ _ _ j1, qu_o _ _ _ _ _ (by decide), f2 j j1]) (by rw [qu_s, eL]) (by
        refine qA_u ?_ _ _ _ (Or.inl (by decide))
        rw [qxss_a]
        have h := qA_push ms (qxsb fld (qxsa 0 A) c)
        rw [qxss_l] at h
        exact h) (by
        rw [eA]
        unfold qxsn
        split
        · exact Or.inr rfl
        · exact Or.inl rfl)
      refine ⟨m', ?_, p2⟩
      rw [st, ← r, eA, eL]
  obtain ⟨m', r, p2⟩ := lp (qpr fld x) [] (qu (zm S) 30 1 0) vu vu vu rfl (fun a a1 _ => qu_o _ _ _ _ _ a1) (fun j j1 => qu_i _ _ _ _ _ j1) (qu_s _ _ _ _) (qA_nil _ _) (Or.inl rfl)
  refine ⟨m', ?_, p2⟩
  have r : zF_55 e 10 [vr 30, vr 23, vi fld, vi 0, vi 0, vu, vu, vu] [] (qW S (qu (zm S) 30 1 0)) = some (.inl (some (vi 1)), qW S m') := r
  have hfl2 : 0 ≤ fld ∧ fld ≤ 1 := by omega
  simp (config := { maxSteps := 2000000 }) (disch := first | omega | (simp only [K_30 hK, qb_in, qkW, qmW, qnW, true_and, and_true, or_self, true_or, or_true, and_self]; done) | (simp only [K_30 hK, qb_in, qkW, qmW, qnW, true_and, and_true, or_self, true_or, or_true, and_self]; omega)) only [zD_55, b55_0, b55_19, b55_33, b55_40, b55_49, b55_53, b55_59, b55_63, b55_64, b55_69, b55_75, b55_85, b55_88, b55_94, b55_104, b55_107, b55_114, b55_117, b55_123, b55_128, qcall_l, qcall_r, qretn_l, qJ_s, qJ_n, qV0, qEx, ↓qif0, ↓zchk_pos, ↓reduceIte, qput, qWW, qmW, qkW, qnW, K_30 hK]
  exact r
theorem s_areSameNodes (S : zS) (m : Int → Int → Int) (b1 b2 : Int) (hK : qK S) (hP : qFp m 30) (hP2 : qFp m 23) (h1 : m 30 8 = b1) (h2 : m 23 8 = b2) (hb1 : b1 ≤ 24) (hb2 : b2 ≤ 24) : ∀ x, qwf x → ∀ (d : Nat) (dep i j : Int), qsz x + 2 ≤ d → 0 ≤ dep → dep + qsz x ≤ 40 → (0 ≤ i ∧ i < b1) → (0 ≤ j ∧ j < b2) → qcr m 30 x i → qcr m 23 x j → zD d 70 [vr 30, vi i, vr 23, vi j, vi dep] (qW S m) = some (.inl (some (vi 1)), qW S m) := by
  have hi0 := hP
  have hj0 := hP2
  obtain ⟨p0, p4, p5, p6, p7, p10⟩ := hi0
  obtain ⟨o0, o4, o5, o6, o7, o10⟩ := hj0
  have p4 : m 30 4 = 32 := p4
  have p5 : m 30 5 = 33 := p5
  have p6 : m 30 6 = 34 := p6
  have p7 : m 30 7 = 35 := p7
  have o4 : m 23 4 = 25 := o4
  have o5 : m 23 5 = 26 := o5
  have o6 : m 23 6 = 27 := o6
  have o7 : m 23 7 = 28 := o7
  refine q_ind (fun z hz d dep i j hd hd0 hdp hi hj hx hy => ?_) fun o l r hjn wl wr il ir d dep i j hd hd0 hdp hi hj hx hy => ?_
  · obtain ⟨e, rfl, hd1⟩ := qd (show 1 + 1 ≤ d by omega)
    rw [qsz_a] at hdp
    have ia := (s_isAtom e S 30 b1 i (qAt z) m hd1 (qFk_30 hK) hP h1 hb1 hi hz hx).1
    rw [show qat (qAt z) = 1 from rfl] at ia
    rw [qcr_a] at hx hy
    have ex : m 32 i = m 25 j ∧ m 33 i = m 26 j := by
      by_cases c : z < 0
      · rw [if_pos c] at hx hy
        exact ⟨hx.1.trans hy.1.symm, hx.2.trans hy.2.symm⟩
      · rw [if_neg c] at hx hy
        exact ⟨hx.1.trans hy.1.symm, hx.2.trans hy.2.symm⟩
    have ex1 := ex.1
    have ex2 := ex.2
    simp (config := { maxSteps := 2000000 }) (disch := first | omega | (simp only [K_30 hK, K_23 hK, K_32 hK, K_33 hK, K_25 hK, K_26 hK, p4, p5, o4, o5, qb_in, qkW, qmW, qnW, true_and, and_true, or_self, true_or, or_true, and_self]; done) | (simp only [K_30 hK, K_23 hK, K_32 hK, K_33 hK, K_25 hK, K_26 hK, p4, p5, o4, o5, qb_in, qkW, qmW, qnW, true_and, and_true, or_self, true_or, or_true, and_self]; omega)) only [zD_70, b70_0, b70_4, b70_12, b70_16, b70_24, b70_31, b70_33, b70_48, b70_63, b70_65, b70_70, b70_73, b70_87, b70_94, b70_97, b70_111, b70_118, b70_121, b70_125, b70_126, qcall_l, qcall_r, qretn_l, qJ_s, qJ_n, qV0, qEx, ↓qif0, ↓zchk_pos, ↓reduceIte, qput, qWW, qmW, qkW, qnW, K_30 hK, K_23 hK, K_32 hK, K_33 hK, K_25 hK, K_26 hK, if_neg (show ¬ i < 0 by omega), if_neg (show ¬ j < 0 by omega), h1, h2, if_pos hi.2, if_pos hj.2, if_neg (show ¬ 40 < dep by omega), p4, p5, o4, o5, if_pos ex1, if_pos ex2, ia, Int.reduceEq, Int.reduceLE, true_and, and_self]
  · rw [qsz_o] at hd hdp
    obtain ⟨e, rfl, hd1⟩ := qd hd
    have wo : qwf (qOp o l r) := by rw [qwf_o]; exact ⟨hjn, wl, wr⟩
    have ia := (s_isAtom e S 30 b1 i (qOp o l r) m (by omega) (qFk_30 hK) hP h1 hb1 hi wo hx).1
    rw [show qat (qOp o l r) = 0 from rfl] at ia
    rw [qcr_o] at hx hy
    obtain ⟨x1, x2, x3, x4, x5, x6⟩ := hx
    obtain ⟨y1, y2, y3, y4, y5, y6⟩ := hy
    have ex1 : m 32 i = m 25 j := x1.trans y1.symm
    have ex2 : m 33 i = m 26 j := x2.trans y2.symm
    have x3 : 0 ≤ m 34 i ∧ m 34 i < i := x3
    have x4 : 0 ≤ m 35 i ∧ m 35 i < i := x4
    have y3 : 0 ≤ m 27 j ∧ m 27 j < j := y3
    have y4 : 0 ≤ m 28 j ∧ m 28 j < j := y4
    have z1 := qsz_1 l wl
    have z2 := qsz_1 r wr
    have r1 := il e (dep + 1) (m 34 i) (m 27 j) (by omega) (by omega) (by omega) (by omega) (by omega) x5 y5
    have r2 := ir e (dep + 1) (m 35 i) (m 28 j) (by omega) (by omega) (by omega) (by omega) (by omega) x6 y6
    simp (config := { maxSteps := 2000000 }) (disch := first | omega | (simp only [K_30 hK, K_23 hK, K_32 hK, K_33 hK, K_34 hK, K_35 hK, K_25 hK, K_26 hK, K_27 hK, K_28 hK, p4, p5, p6, p7, o4, o5, o6, o7, qb_in, qkW, qmW, qnW, true_and, and_true, or_self, true_or, or_true, and_self]; done) | (simp only [K_30 hK, K_23 hK, K_32 hK, K_33 hK, K_34 hK, K_35 hK, K_25 hK, K_26 hK, K_27 hK, K_28 hK, p4, p5, p6, p7, o4, o5, o6, o7, qb_in, qkW, qmW, qnW, true_and, and_true, or_self, true_or, or_true, and_self]; omega)) only [zD_70, b70_0, b70_4, b70_12, b70_16, b70_24, b70_31, b70_33, b70_48, b70_63, b70_65, b70_70, b70_73, b70_87, b70_94, b70_97, b70_111, b70_118, b70_121, b70_125, b70_126, qcall_l, qcall_r, qretn_l, qJ_s, qJ_n, qV0, qEx, ↓qif0, ↓zchk_pos, ↓reduceIte, qput, qWW, qmW, qkW, qnW, K_30 hK, K_23 hK, K_32 hK, K_33 hK, K_34 hK, K_35 hK, K_25 hK, K_26 hK, K_27 hK, K_28 hK, if_neg (show ¬ i < 0 by omega), if_neg (show ¬ j < 0 by omega), h1, h2, if_pos hi.2, if_pos hj.2, if_neg (show ¬ 40 < dep by omega), p4, p5, p6, p7, o4, o5, o6, o7, if_pos ex1, if_pos ex2, ia, r1, r2, q32, Int.reduceEq, Int.reduceLE, true_and, and_self]
