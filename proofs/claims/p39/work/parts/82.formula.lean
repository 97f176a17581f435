/-! Formulas of the tape: the class reads and writes them, the reference tells them. -/
theorem qfo_c (t : Int → Int) (n : Int) : ∀ (f : Nat) (p o a g due : Int), 0 ≤ p → 0 ≤ n → (due = 0 ∨ due = 1) → qfo t n f p o a g due = -1 → ∀ i, p ≤ i → i < p + f → t i ≠ 91 ∧ t i ≠ 35 := by
  intro f
  induction f with
  | zero =>
    intro p o a g due hp hn hd h i i1 i2
    omega
  | succ f ih =>
    intro p o a g due hp hn hd h i i1 i2
    have step : (t p ≠ 91 ∧ t p ≠ 35) → (p + 1 ≤ i → i < p + 1 + f → t i ≠ 91 ∧ t i ≠ 35) → t i ≠ 91 ∧ t i ≠ 35 := fun h1 h2 => by
      by_cases c : i = p
      · rw [c]; exact h1
      · exact h2 (by omega) (by omega)
    rcases hd with rfl | rfl
    · by_cases c1 : qdg (t p) ∧ 0 < g ∧ g < 4
      · rw [qfo_B1 c1.1 c1.2] at h
        exact step (by omega) (ih _ _ _ _ _ (by omega) hn (Or.inl rfl) h i)
      · by_cases c2 : t p = 41 ∧ 0 < o
        · rw [qfo_B2 c2.1 c2.2] at h
          exact step (by omega) (ih _ _ _ _ _ (by omega) hn (Or.inl rfl) h i)
        · by_cases c3 : qjn (t p)
          · rw [qfo_B3 c3] at h
            exact step (by omega) (ih _ _ _ _ _ (by omega) hn (Or.inr rfl) h i)
          · rw [qfo_B4 c1 c2 c3] at h
            omega
    · by_cases c1 : t p = 40
      · rw [qfo_A1 c1] at h
        exact step (by omega) (ih _ _ _ _ _ (by omega) hn (Or.inr rfl) h i)
      · by_cases c2 : qdg (t p) ∧ a < 12
        · rw [qfo_A2 c2.1 c2.2] at h
          exact step (by omega) (ih _ _ _ _ _ (by omega) hn (Or.inl rfl) h i)
        · by_cases c3 : qsm (t p) ∧ a < 12
          · rw [qfo_A3 c3.1 c3.2] at h
            exact step (by omega) (ih _ _ _ _ _ (by omega) hn (Or.inl rfl) h i)
          · rw [qfo_A4 c1 (fun z => by
              rcases z.1 with q | q
              · exact c2 ⟨q, z.2⟩
              · exact c3 ⟨q, z.2⟩)] at h
            omega
theorem qff1_c (t : Int → Int) (n : Int) (hn : 0 ≤ n) (h : qff1 t n = -1) : ∀ i, 0 ≤ i → i < n → t i ≠ 91 ∧ t i ≠ 35 := fun i h1 h2 => qfo_c t n n.toNat 0 0 0 0 1 (Int.le_refl 0) hn (Or.inr rfl) h i h1 (by omega)
theorem qFk_23 {S : zS} (h : qK S) : qFk S 23 := ⟨K_23 h, K_24 h, K_25 h, K_26 h, K_27 h, K_28 h, K_29 h⟩
theorem qFk_30 {S : zS} (h : qK S) : qFk S 30 := ⟨K_30 h, K_31 h, K_32 h, K_33 h, K_34 h, K_35 h, K_36 h⟩
theorem qFp_23 {m : Int → Int → Int} (h : qP m) : qFp m 23 := ⟨P_23_0 h, P_23_4 h, P_23_5 h, P_23_6 h, P_23_7 h, P_23_10 h⟩
theorem qFp_30 {m : Int → Int → Int} (h : qP m) : qFp m 30 := ⟨P_30_0 h, P_30_4 h, P_30_5 h, P_30_6 h, P_30_7 h, P_30_10 h⟩
theorem s_appendSymbol (d : Nat) (S : zS) (F k c : Int) (h : 1 ≤ d) (hF : qFk S F) (hp : qFp (zm S) F) (h1 : zm S F 1 = k) (hk : 0 ≤ k ∧ k < 160) (hc : 0 ≤ c ∧ c < 65536) : zD d 58 [vr F, vi c] S = some (.inl none, qW S (qu (qu (zm S) (F + 1) k c) F 1 (k + 1))) := by
  obtain ⟨e, rfl, -⟩ := qd h
  obtain ⟨k0, k1, -⟩ := hF
  obtain ⟨h0, -⟩ := hp
  have ec : c % 65536 = c := by omega
  have e1 : qu (zm S) (F + 1) k c F = zm S F := qu_o _ _ _ _ _ (by omega)
  simp (config := { maxSteps := 2000000 }) (disch := first | omega | (simp only [k0, k1, h0, h1, e1, qb_in, qkW, qmW, qnW, true_and, and_true, or_self, true_or, or_true, and_self]; done) | (simp only [k0, k1, h0, h1, e1, qb_in, qkW, qmW, qnW, true_and, and_true, or_self, true_or, or_true, and_self]; omega)) only [zD_58, b58_0, b58_10, b58_26, b58_30, qcall_l, qcall_r, qretn_l, qJ_s, qJ_n, qV0, qEx, ↓qif0, ↓zchk_pos, ↓reduceIte, qput, qWW, qmW, qkW, qnW, k0, k1, h0, h1, ec, e1, if_pos hk.2, q32]
/-- a formula object holds a tree -/
def qHo (m : Int → Int → Int) (F : Int) (x : qTree) : Prop := qFp m F ∧ m F 8 = qsz x ∧ (0 ≤ m F 9 ∧ m F 9 < qsz x) ∧ qcr m F x (m F 9)
theorem s_readSymbols (d : Nat) (S : zS) (F : Int) (s : Int → Int) (n fld : Int) (x : qTree) (h : 180 ≤ d) (hF : qFk S F) (hn : 0 ≤ n ∧ n ≤ 160) (hc : ∀ i, 0 ≤ i → i < n → 0 ≤ s i ∧ s i < 65536) (hfl : fld = 0 ∨ fld = 1) (hp : qFp (zm S) F) (h1 : zm S F 1 = n) (hs : ∀ i, 0 ≤ i → i < n → zm S (F + 1) i = s i) (hx : qPx (qsy s n) fld 0 0 0 qNl n x) (hw : qwf x) (hz : qsz x ≤ 24) :
    ∃ m', zD d 59 [vr F, vi fld] S = some (.inl (some (vi 1)), qW S m') ∧ qHo m' F x ∧ (∀ a, a ≠ F → (a < F + 2 ∨ F + 5 < a) → m' a = zm S a) ∧ ∀ j, j ≠ 2 → j ≠ 3 → j ≠ 8 → j ≠ 9 → m' F j = zm S F j := by
  obtain ⟨e, rfl, h2⟩ := qd h
  obtain ⟨f, hx⟩ := hx
  have k0 := hF.1
  have hp' := hp
  obtain ⟨p0, p4, p5, p6, p7, p10⟩ := hp'
  have hq : qSt (qu (qu (qu (zm S) F 3 fld) F 2 0) F 8 0) F s n fld 0 0 := by
    refine ⟨⟨?_, ?_, ?_, ?_, ?_, ?_⟩, ?_, fun i i1 i2 => ?_, ?_, ?_, qu_s _ _ _ _⟩
    all_goals first | (rw [qu_i _ _ _ _ _ (by decide), qu_i _ _ _ _ _ (by decide), qu_i _ _ _ _ _ (by decide)]; assumption) | skip
    · rw [qu_o _ _ _ _ _ (by omega), qu_o _ _ _ _ _ (by omega), qu_o _ _ _ _ _ (by omega)]
      exact hs i i1 i2
    · rw [qu_i _ _ _ _ _ (by decide), qu_s]
    · rw [qu_i _ _ _ _ _ (by decide), qu_i _ _ _ _ _ (by decide), qu_s]
  obtain ⟨r, m1, r1, s1, hr, c1, f1⟩ := (s_parse S F s n fld hF hn hc hfl f).1 e 0 0 n 0 qNl x _ hx (by omega) (Int.le_refl 0) (Int.le_refl 0) hn.1 (Int.le_refl 0) (by omega) hq
  rw [Int.zero_add] at s1 hr
  have e9 : qu m1 F 9 r F 9 = r := qu_s _ _ _ _
  have g1 := s1.2.1
  have g2 := s1.2.2.2.1
  have e1 : qu m1 F 9 r F 1 = n := by rw [qu_i _ _ _ _ _ (by decide), g1]
  have e2 : qu m1 F 9 r F 2 = n := by rw [qu_i _ _ _ _ _ (by decide), g2]
  have hfl2 : 0 ≤ fld ∧ fld ≤ 1 := by omega
  refine ⟨qu m1 F 9 r, ?_, ⟨?_, ?_, ?_, ?_⟩, fun a a1 a2 => ?_, fun j j2 j3 j8 j9 => ?_⟩
  · simp (config := { maxSteps := 2000000 }) (disch := first | omega | (simp only [k0, qb_in, qkW, qmW, qnW, true_and, and_true, or_self, true_or, or_true, and_self]; done) | (simp only [k0, qb_in, qkW, qmW, qnW, true_and, and_true, or_self, true_or, or_true, and_self]; omega)) only [zD_59, b59_0, b59_16, b59_21, b59_32, b59_43, b59_47, b59_48, qcall_l, qcall_r, qretn_l, qJ_s, qJ_n, qV0, qEx, ↓qif0, ↓zchk_pos, ↓reduceIte, qput, qWW, qmW, qkW, qnW, k0, hfl2, r1, e9, e1, e2, if_neg (show ¬ r = -1 by omega), Int.reduceLE, true_and, and_self]
  · obtain ⟨q0, q4, q5, q6, q7, q10⟩ := s1.1
    refine ⟨?_, ?_, ?_, ?_, ?_, ?_⟩
    all_goals (rw [qu_i _ _ _ _ _ (by decide)]; assumption)
  · rw [qu_i _ _ _ _ _ (by decide)]
    exact s1.2.2.2.2.2
  · rw [e9]; exact hr
  · rw [e9]
    exact qcr_f (b := qsz x) (fun a i a1 a2 _ => by rw [qu_o _ _ _ _ _ (by omega)]) x hw r hr.2 c1
  · rw [qu_o _ _ _ _ _ a1, f1.1 a a1 a2, qu_o _ _ _ _ _ a1, qu_o _ _ _ _ _ a1, qu_o _ _ _ _ _ a1]
  · rw [qu_i _ _ _ _ _ j9, f1.2.1 j j2 j8, qu_i _ _ _ _ _ j8, qu_i _ _ _ _ _ j2, qu_i _ _ _ _ _ j3]
theorem s_readTape (d : Nat) (S : zS) (n : Int) (t : Int → Int) (x : qTree) (h : 181 ≤ d) (hK : qK S) (hP : qP (zm S)) (p1 : zm S 4 1 = n) (p5 : zm S 5 = t) (hn : 0 ≤ n ∧ n ≤ 60) (hr : ∀ i, 0 ≤ i → i < n → 0 ≤ t i ∧ t i < 65536) (hx : qPx (qsy t n) 0 0 0 0 qNl n x) (hw : qwf x) (hz : qsz x ≤ 24) :
    ∃ m', zD d 54 [vr 23, vr 4] S = some (.inl none, qW S m') ∧ qHo m' 23 x ∧ (∀ a, a < 23 ∨ 28 < a → m' a = zm S a) ∧ ∀ j, j ≠ 1 → j ≠ 2 → j ≠ 3 → j ≠ 8 → j ≠ 9 → m' 23 j = zm S 23 j := by
  obtain ⟨e, rfl, h2⟩ := qd h
  have hF := qFk_23 hK
  have lp : ∀ (g k : Nat) (m : Int → Int → Int), (k : Int) + g = n → (∀ a, a ≠ 23 → a ≠ 24 → m a = zm S a) → (∀ j, j ≠ 1 → m 23 j = zm S 23 j) → m 23 1 = k → (∀ i, 0 ≤ i → i < (k : Int) → m 24 i = t i) → ∃ m', zF_54 e 7 [vr 23, vr 4, vi k] [] (qW S m) = some (.inl none, qW S m') ∧ qHo m' 23 x ∧ (∀ a, a < 23 ∨ 28 < a → m' a = zm S a) ∧ ∀ j, j ≠ 1 → j ≠ 2 → j ≠ 3 → j ≠ 8 → j ≠ 9 → m' 23 j = zm S 23 j := by
    intro g
    induction g with
    | zero =>
      intro k m hk f1 f2 m1 ms
      have hk : (k : Int) = n := by omega
      have hPm : qFp m 23 := by
        obtain ⟨q0, q4, q5, q6, q7, q10⟩ := qFp_23 hP
        refine ⟨?_, ?_, ?_, ?_, ?_, ?_⟩
        all_goals (rw [f2 _ (by decide)]; assumption)
      obtain ⟨m', r, p2, p3, p4⟩ := s_readSymbols e (qW S m) 23 t n 0 x (by omega) hF (by omega) hr (Or.inl rfl) hPm (by rw [← hk]; exact m1) (by rw [← hk]; exact ms) hx hw hz
      refine ⟨m', ?_, p2, fun a ha => ?_, fun j j1 j2 j3 j8 j9 => ?_⟩
      · have e4 : m 4 = zm S 4 := f1 4 (by decide) (by decide)
        rw [b54_7]
        simp (config := { maxSteps := 2000000 }) (disch := first | omega | (simp only [K_3 hK, K_4 hK, P_3_0 hP, K_23 hK, P_3_16 hP, qb_in, qkW, qmW, qnW, true_and, and_true, or_self, true_or, or_true, and_self]; done) | (simp only [K_3 hK, K_4 hK, P_3_0 hP, K_23 hK, P_3_16 hP, qb_in, qkW, qmW, qnW, true_and, and_true, or_self, true_or, or_true, and_self]; omega)) only [b54_0, b54_15, b54_25, b54_31, b54_36, qcall_l, qcall_r, qretn_l, qJ_s, qJ_n, qV0, qEx, ↓qif0, ↓zchk_pos, ↓reduceIte, qput, qWW, qmW, qkW, qnW, K_3 hK, K_4 hK, P_3_0 hP, K_23 hK, P_3_16 hP, e4, p1, hk, Int.lt_irrefl, r]
      · rw [p3 a (by omega) (by omega)]
        exact f1 a (by omega) (by omega)
      · rw [p4 j j2 j3 j8 j9]
        exact f2 j j1
    | succ g ih =>
      intro k m hk f1 f2 m1 ms
      have e4 : m 4 = zm S 4 := f1 4 (by decide) (by decide)
      have e5 : m 5 = t := by rw [f1 5 (by decide) (by decide)]; exact p5
      have hPm : qFp m 23 := by
        obtain ⟨q0, q4, q5, q6, q7, q10⟩ := qFp_23 hP
        refine ⟨?_, ?_, ?_, ?_, ?_, ?_⟩
        all_goals (rw [f2 _ (by decide)]; assumption)
      have ap := s_appendSymbol e (qW S m) 23 k (t k) (by omega) hF hPm m1 (by omega) (hr k (by omega) (by omega))
      obtain ⟨m', r, p2⟩ := ih (k + 1) (qu (qu m 24 k (t k)) 23 1 (k + 1)) (by omega) (fun a a1 a2 => by rw [qu_o _ _ _ _ _ a1, qu_o _ _ _ _ _ a2, f1 a a1 a2]) (fun j j1 => by rw [qu_i _ _ _ _ _ j1, qu_o _ _ _ _ _ (by decide), f2 j j1]) (qu_s _ _ _ _) (fun i i1 i2 => by
        rw [qu_o _ _ _ _ _ (by decide)]
        by_cases c : i = k
        · rw [c, qu_s]
        · rw [qu_i _ _ _ _ _ c]
          exact ms i i1 (by omega))
      refine ⟨m', ?_, p2⟩
      rw [b54_7]
      have p40 := P_4_0 hP
      simp (config := { maxSteps := 2000000 }) (disch := first | omega | (simp only [K_3 hK, K_4 hK, P_3_0 hP, K_23 hK, P_3_16 hP, e4, p40, K_5 hK, qb_in, qkW, qmW, qnW, true_and, and_true, or_self, true_or, or_true, and_self]; done) | (simp only [K_3 hK, K_4 hK, P_3_0 hP, K_23 hK, P_3_16 hP, e4, p40, K_5 hK, qb_in, qkW, qmW, qnW, true_and, and_true, or_self, true_or, or_true, and_self]; omega)) only [b54_0, b54_15, b54_25, b54_31, b54_36, qcall_l, qcall_r, qretn_l, qJ_s, qJ_n, qV0, qEx, ↓qif0, ↓zchk_pos, ↓reduceIte, qput, qWW, qmW, qkW, qnW, K_3 hK, K_4 hK, P_3_0 hP, K_23 hK, P_3_16 hP, e4, e5, p1, p40, K_5 hK, if_pos (show (k : Int) < n by omega), ap, q32, show (23 : Int) + 1 = 24 from rfl]
      exact r
  obtain ⟨m', r, p2⟩ := lp n.toNat 0 (qu (zm S) 23 1 0) (by omega) (fun a a1 _ => qu_o _ _ _ _ _ a1) (fun j j1 => qu_i _ _ _ _ _ j1) (qu_s _ _ _ _) (fun i i1 i2 => by omega)
  refine ⟨m', ?_, p2⟩
  simp (config := { maxSteps := 2000000 }) (disch := first | omega | (simp only [K_3 hK, K_4 hK, P_3_0 hP, K_23 hK, P_3_16 hP, qb_in, qkW, qmW, qnW, true_and, and_true, or_self, true_or, or_true, and_self]; done) | (simp only [K_3 hK, K_4 hK, P_3_0 hP, K_23 hK, P_3_16 hP, qb_in, qkW, qmW, qnW, true_and, and_true, or_self, true_or, or_true, and_self]; omega)) only [zD_54, b54_0, b54_15, b54_25, b54_31, b54_36, qcall_l, qcall_r, qretn_l, qJ_s, qJ_n, qV0, qEx, ↓qif0, ↓zchk_pos, ↓reduceIte, qput, qWW, qmW, qkW, qnW, K_3 hK, K_4 hK, P_3_0 hP, K_23 hK, P_3_16 hP]
  exact r
theorem s_writeTree (d : Nat) (S : zS) (F fld : Int) (x : qTree) (h : 55 ≤ d) (hK : qK S) (hF : qFk S F) (hF2 : 3 ≤ F) (hfl : fld = 0 ∨ fld = 1) (hL : qLt (zm S)) (hx : qHo (zm S) F x) (hw : qwf x) (hz : qsz x ≤ 23) (hLt : ∀ v, qLt (qu (qu (zm S) F 11 v) F 3 fld)) :
    ∃ m', zD d 72 [vr F, vi fld] S = some (.inl none, qW S m') ∧ qHo m' F x ∧ qCl m' F (qpr fld x) ∧ (∀ a, a ≠ F → a ≠ F + 6 → m' a = zm S a) ∧ ∀ j, j ≠ 3 → j ≠ 11 → m' F j = zm S F j := by
  obtain ⟨e, rfl, h2⟩ := qd h
  have k0 := hF.1
  obtain ⟨⟨p0, p4, p5, p6, p7, p10⟩, p8, p9, pc⟩ := hx
  have fp : ∀ m : Int → Int → Int, (∀ j, j ≠ 3 → j ≠ 11 → m F j = zm S F j) → qFp m F := fun m hm => by
    refine ⟨?_, ?_, ?_, ?_, ?_, ?_⟩
    all_goals (rw [hm _ (by decide) (by decide)]; assumption)
  have g9 : qu (qu (zm S) F 11 0) F 3 fld F 9 = zm S F 9 := by rw [qu_i _ _ _ _ _ (by decide), qu_i _ _ _ _ _ (by decide)]
  obtain ⟨m', r, c1, f1⟩ := s_writeNode S F (qsz x) fld hK hF hF2 hfl (by omega) x hw e 0 (zm S F 9) [] (qu (qu (zm S) F 11 0) F 3 fld) (by omega) (Int.le_refl 0) (by omega) (hLt 0) (fp _ fun j j3 j11 => by rw [qu_i _ _ _ _ _ j3, qu_i _ _ _ _ _ j11]) (by rw [qu_i _ _ _ _ _ (by decide), qu_i _ _ _ _ _ (by decide)]; exact p8) (qu_s _ _ _ _) (qcr_f (b := qsz x) (fun a i a1 a2 _ => by rw [qu_o _ _ _ _ _ (by omega), qu_o _ _ _ _ _ (by omega)]) x hw _ p9.2 pc) p9 ⟨by rw [qu_i _ _ _ _ _ (by decide), qu_s]; rfl, qA_nil _ _⟩ (by show 0 + 5 * qsz x ≤ 155; omega)
  rw [List.nil_append] at c1
  have hm : ∀ j, j ≠ 3 → j ≠ 11 → m' F j = zm S F j := fun j j3 j11 => by rw [f1.2 j j11, qu_i _ _ _ _ _ j3, qu_i _ _ _ _ _ j11]
  have hfl2 : 0 ≤ fld ∧ fld ≤ 1 := by omega
  refine ⟨m', ?_, ⟨fp _ hm, by rw [hm _ (by decide) (by decide)]; exact p8, by rw [hm _ (by decide) (by decide)]; exact p9, ?_⟩, c1, fun a a1 a2 => ?_, hm⟩
  · simp (config := { maxSteps := 2000000 }) (disch := first | omega | (simp only [k0, qb_in, qkW, qmW, qnW, true_and, and_true, or_self, true_or, or_true, and_self]; done) | (simp only [k0, qb_in, qkW, qmW, qnW, true_and, and_true, or_self, true_or, or_true, and_self]; omega)) only [zD_72, b72_0, b72_16, b72_19, qcall_l, qcall_r, qretn_l, qJ_s, qJ_n, qV0, qEx, ↓qif0, ↓zchk_pos, ↓reduceIte, qput, qWW, qmW, qkW, qnW, k0, hfl2, g9, r, Int.reduceLE, true_and, and_self]
  · rw [hm 9 (by decide) (by decide)]
    exact qcr_f (b := qsz x) (fun a i a1 a2 _ => by rw [f1.1 a (by omega) (by omega), qu_o _ _ _ _ _ (by omega), qu_o _ _ _ _ _ (by omega)]) x hw _ p9.2 pc
  · rw [f1.1 a a1 a2, qu_o _ _ _ _ _ a1, qu_o _ _ _ _ _ a1]
