/-! Questions and orders for the tape. -/
theorem q_fault (d : Nat) (S : zS) (h : 7 ≤ d) (hK : qK S) (hP : qP (zm S)) (hT : qRT S) (hC : qRC S) : qAsk0 S (zD d 117 [vr 3] S) (zD d 203 [vr 37]) := by
  obtain ⟨e, rfl, h1⟩ := qd h
  have q1 : qFq S (qu (zm S) 37 0 0) := qFq_37x (qFq_r S) (qfr_j (A := []) (J := [0]) _ _ _ (by decide)) (by decide) (by decide)
  have r := s_faultAsText' e S (by omega) hK hP hT
  have r2 := r_faultOf' e (qW S (qu (zm S) 37 0 0)) (by omega) hK (qFq_P hC hP q1) (qRT_q hC hT q1)
  have g2 : qu (zm S) 37 0 0 37 2 = zm S 37 2 := qu_i _ _ _ _ _ (by decide)
  have g38 : qu (zm S) 37 0 0 38 = zm S 38 := qu_o _ _ _ _ _ (by decide)
  have r2 : zD e 202 [vr 37] (qW S (qu (zm S) 37 0 0)) = some (.inl (some (vi (qtf (zm S 38) (zm S 37 2)))), qW S (qu (zm S) 37 0 0)) := by
    rw [← g2, ← g38]
    exact r2
  refine ⟨(qtf (zm S 38) (zm S 37 2)), zm S, qu (zm S) 37 0 0, ?_, rfl, ?_, qu_s _ _ _ _, q1⟩
  · rw [qWS]
    simp (config := { maxSteps := 2000000 }) (disch := first | omega | (simp only [K_3 hK, K_4 hK, P_3_0 hP, P_3_0 hP, qb_in, qkW, qmW, qnW, true_and, and_true, or_self, true_or, or_true, and_self]; done) | (simp only [K_3 hK, K_4 hK, P_3_0 hP, P_3_0 hP, qb_in, qkW, qmW, qnW, true_and, and_true, or_self, true_or, or_true, and_self]; omega)) only [zD_117, b117_0, b117_7, qcall_l, qcall_r, qretn_l, qJ_s, qJ_n, qV0, qEx, ↓qif0, ↓zchk_pos, ↓reduceIte, qput, qWW, qmW, qkW, qnW, K_3 hK, K_4 hK, P_3_0 hP, P_3_0 hP, r]
  · rw [qWS]
    simp (config := { maxSteps := 2000000 }) (disch := first | omega | (simp only [K_37 hK, qb_in, qkW, qmW, qnW, true_and, and_true, or_self, true_or, or_true, and_self]; done) | (simp only [K_37 hK, qb_in, qkW, qmW, qnW, true_and, and_true, or_self, true_or, or_true, and_self]; omega)) only [zD_203, b203_0, b203_9, qcall_l, qcall_r, qretn_l, qJ_s, qJ_n, qV0, qEx, ↓qif0, ↓zchk_pos, ↓reduceIte, qput, qWW, qmW, qkW, qnW, K_37 hK, r2]
/-- an order: both answer alike and what it changes is told -/
def qAskW (Q : (Int → Int → Int) → Prop) (S : zS) (R : zR) (F : zS → zR) (ps : Nat → Int) : Prop :=
  (∃ v m1, R = some (.inl (some (vi v)), qW S m1) ∧ m1 1 = zm S 1 ∧ ∀ o : Int, ∃ m2, F (qW S (qu m1 102 0 o)) = some (.inl (some (vi v)), qW S m2) ∧ m2 37 0 = 0 ∧ m2 102 0 = o ∧ Q m2) ∨
  ∃ x v m1 m2, R = some (.inr x, zbump (qW S m1)) ∧ m1 1 = zm S 1 ∧ F (zbump (qW S m1)) = some (.inl (some (vi v)), zbump (qW S m2)) ∧ m2 37 0 = ps x ∧ ps x ≠ 0 ∧ qFq S m2
def qAskW0 (Q : (Int → Int → Int) → Prop) (S : zS) (R : zR) (F : zS → zR) : Prop :=
  ∃ v m1 m2, R = some (.inl (some (vi v)), qW S m1) ∧ m1 1 = zm S 1 ∧ F (qW S m1) = some (.inl (some (vi v)), qW S m2) ∧ m2 37 0 = 0 ∧ Q m2
/-- only the tapes are changed -/
def qFtp (S : zS) (m' : Int → Int → Int) : Prop := ∀ x j, ¬ (x = 102 ∨ (x = 4 ∧ j = 1) ∨ x = 5 ∨ (x = 37 ∧ (j = 0 ∨ j = 2)) ∨ x = 38) → m' x j = zm S x j
theorem q_wipe (d : Nat) (S : zS) (h : 3 ≤ d) (hK : qK S) (hP : qP (zm S)) (hT : qRT S) : qAskW0 (fun m2 => qFtp S m2 ∧ qRT (qW S m2)) S (zD d 116 [vr 3] S) (zD d 198 [vr 37]) := by
  obtain ⟨e, rfl, h1⟩ := qd h
  obtain ⟨f, rfl, h2⟩ := qd h1
  have hT' := hT
  obtain ⟨t1, t2, t3, t4⟩ := hT'
  have g : qu (qu (zm S) 4 1 0) 37 0 0 37 2 = zm S 4 1 := by rw [qu_i _ _ _ _ _ (by decide), qu_o _ _ _ _ _ (by decide), t1]
  refine ⟨(zm S 4 1), qu (zm S) 4 1 0, qu (qu (qu (zm S) 4 1 0) 37 0 0) 37 2 0, ?_, qu_o _ _ _ _ _ (by decide), ?_, ?_, fun x j q => ?_, ?_, ?_, ?_, fun i i1 i2 => ?_⟩
  · simp (config := { maxSteps := 2000000 }) (disch := first | omega | (simp only [K_3 hK, K_4 hK, P_3_0 hP, P_3_0 hP, qb_in, qkW, qmW, qnW, true_and, and_true, or_self, true_or, or_true, and_self]; done) | (simp only [K_3 hK, K_4 hK, P_3_0 hP, P_3_0 hP, qb_in, qkW, qmW, qnW, true_and, and_true, or_self, true_or, or_true, and_self]; omega)) only [zD_116, b116_0, qcall_l, qcall_r, qretn_l, qJ_s, qJ_n, qV0, qEx, ↓qif0, ↓zchk_pos, ↓reduceIte, qput, qWW, qmW, qkW, qnW, K_3 hK, K_4 hK, P_3_0 hP, P_3_0 hP]
  · simp (config := { maxSteps := 2000000 }) (disch := first | omega | (simp only [K_37 hK, qb_in, qkW, qmW, qnW, true_and, and_true, or_self, true_or, or_true, and_self]; done) | (simp only [K_37 hK, qb_in, qkW, qmW, qnW, true_and, and_true, or_self, true_or, or_true, and_self]; omega)) only [zD_198, b198_0, b198_9, zD_197, b197_0, qcall_l, qcall_r, qretn_l, qJ_s, qJ_n, qV0, qEx, ↓qif0, ↓zchk_pos, ↓reduceIte, qput, qWW, qmW, qkW, qnW, K_37 hK, g]
  · rw [qu_i _ _ _ _ _ (by decide), qu_s]
  · simp only [qu1]
    repeat' split
    all_goals first | rfl | (exfalso; omega)
  · show qu (qu (qu (zm S) 4 1 0) 37 0 0) 37 2 0 4 1 = qu (qu (qu (zm S) 4 1 0) 37 0 0) 37 2 0 37 2
    rw [qu_s, qu_o _ _ _ _ _ (by decide), qu_o _ _ _ _ _ (by decide), qu_s]
  · show 0 ≤ qu (qu (qu (zm S) 4 1 0) 37 0 0) 37 2 0 37 2 ∧ qu (qu (qu (zm S) 4 1 0) 37 0 0) 37 2 0 37 2 ≤ 60
    rw [qu_s]
    decide
  · intro i i2
    have i2 : i < qu (qu (qu (zm S) 4 1 0) 37 0 0) 37 2 0 37 2 := i2
    rw [qu_s] at i2
    show qu (qu (qu (zm S) 4 1 0) 37 0 0) 37 2 0 5 i = qu (qu (qu (zm S) 4 1 0) 37 0 0) 37 2 0 38 i
    rw [qu_o _ _ _ _ _ (by decide), qu_o _ _ _ _ _ (by decide), qu_o _ _ _ _ _ (by decide), t3 i (by omega), qu_o _ _ _ _ _ (by decide), qu_o _ _ _ _ _ (by decide), qu_o _ _ _ _ _ (by decide)]
  · have i2 : i < qu (qu (qu (zm S) 4 1 0) 37 0 0) 37 2 0 37 2 := i2
    rw [qu_s] at i2
    omega
theorem s_characterOf (d : Nat) (S : zS) (c i : Int) (h : 1 ≤ d) (hi : 0 ≤ i ∧ i < 8) : zD d 151 [vl c, vi i] S = some (.inl (some (vi (qch c i))), S) := by
  obtain ⟨e, rfl, -⟩ := qd h
  have hr := qch_r c i hi
  have he := qch_e c i hi
  have h3 : qch c i % 65536 = qch c i := by omega
  have h4 : 0 ≤ qch c i ∧ qch c i < 65536 := by omega
  simp (config := { maxSteps := 2000000 }) (disch := first | omega | (simp only [qb_in, qkW, qmW, qnW, true_and, and_true, or_self, true_or, or_true, and_self]; done) | (simp only [qb_in, qkW, qmW, qnW, true_and, and_true, or_self, true_or, or_true, and_self]; omega)) only [zD_151, b151_0, qcall_l, qcall_r, qretn_l, qJ_s, qJ_n, qV0, qEx, ↓qif0, ↓zchk_pos, ↓reduceIte, qput, qWW, qmW, qkW, qnW, q32, he, h3, h4, true_and, and_self]
theorem s_tapeAppend (d : Nat) (S : zS) (k c : Int) (h : 1 ≤ d) (hK : qK S) (hP : qP (zm S)) (h1 : zm S 4 1 = k) (hk : 0 ≤ k ∧ k < 60) (hc : 0 ≤ c ∧ c < 65536) : zD d 93 [vr 4, vi c] S = some (.inl none, qW S (qu (qu (zm S) 5 k c) 4 1 (k + 1))) := by
  obtain ⟨e, rfl, -⟩ := qd h
  have ec : c % 65536 = c := by omega
  have e1 : qu (zm S) 5 k c 4 = zm S 4 := qu_o _ _ _ _ _ (by decide)
  simp (config := { maxSteps := 2000000 }) (disch := first | omega | (simp only [K_3 hK, K_4 hK, P_3_0 hP, K_5 hK, P_4_0 hP, h1, e1, qb_in, qkW, qmW, qnW, true_and, and_true, or_self, true_or, or_true, and_self]; done) | (simp only [K_3 hK, K_4 hK, P_3_0 hP, K_5 hK, P_4_0 hP, h1, e1, qb_in, qkW, qmW, qnW, true_and, and_true, or_self, true_or, or_true, and_self]; omega)) only [zD_93, b93_0, b93_9, b93_25, b93_29, qcall_l, qcall_r, qretn_l, qJ_s, qJ_n, qV0, qEx, ↓qif0, ↓zchk_pos, ↓reduceIte, qput, qWW, qmW, qkW, qnW, K_3 hK, K_4 hK, P_3_0 hP, K_5 hK, P_4_0 hP, h1, ec, e1, if_pos hk.2, q32]
/-- what is typed -/
def qty (t : Int → Int) (k c : Int) : Nat → Int → Int
  | 0 => t
  | j + 1 => fun p => if p = k + j then qch c j else qty t k c j p
theorem qu_row (m : Int → Int → Int) (a j v : Int) : qu m a j v a = fun p => if p = j then v else m a p := by
  funext p
  by_cases c : p = j
  · rw [if_pos c, c, qu_s]
  · rw [if_neg c, qu_i _ _ _ _ _ c]
theorem qty_e {u t : Int → Int} {k c : Int} (h : ∀ i, i < k → u i = t i) : ∀ (j : Nat) (i : Int), i < k + j → qty u k c j i = qty t k c j i
  | 0, i, hi => h i (by omega)
  | j + 1, i, hi => by
    show (if i = k + j then qch c j else qty u k c j i) = if i = k + j then qch c j else qty t k c j i
    by_cases q : i = k + j
    · rw [if_pos q, if_pos q]
    · rw [if_neg q, if_neg q]
      exact qty_e h j i (by omega)
theorem qty_r {t : Int → Int} {k c : Int} (ht : ∀ i, 0 ≤ i → i < k → 0 ≤ t i ∧ t i < 65536) : ∀ j : Nat, j ≤ 8 → ∀ i, 0 ≤ i → i < k + j → 0 ≤ qty t k c j i ∧ qty t k c j i < 65536 := by
  intro j
  induction j with
  | zero => intro _ i h1 h2; exact ht i h1 (by omega)
  | succ j ih =>
    intro hj i h1 h2
    have := qch_r c j (by omega)
    rw [qty]
    show 0 ≤ (if i = k + j then qch c j else qty t k c j i) ∧ (if i = k + j then qch c j else qty t k c j i) < 65536
    split
    · omega
    · exact ih (by omega) i h1 (by omega)
