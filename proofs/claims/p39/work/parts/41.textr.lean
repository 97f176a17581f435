/-! The tape as a text: the reference's way. -/
def qsg (t : Int → Int) (n i : Int) : Int := if i < n then t i else 0
abbrev qgo (c so first : Int) : Prop := so < 10 ∧ ((first = 2 ∧ qbg c) ∨ (first = 1 ∧ so = 1 ∧ (qbg c ∨ qsm c)) ∨ (first ≠ 2 ∧ ¬(first = 1 ∧ so = 1) ∧ qsm c))
def qed (s : Int → Int) (first : Int) : Nat → Int → Int
  | 0, k => k
  | f + 1, k => if qdg (s k) ∧ k - first < 6 then qed s first f (k + 1) else k
def qel (s : Int → Int) (first : Int) : Nat → Int → Int → Int
  | 0, k, _ => k
  | f + 1, k, kind => if qgo (s k) (k - first) kind then
      qel s first f (k + 1) (if k - first = 1 ∧ kind = 1 then (if qbg (s k) then 2 else 0) else kind) else k
def qeo1 (s : Int → Int) (k : Int) : Int :=
  if qdg (s k) then qed s k 7 k + qb (qmk (s (qed s k 7 k)))
  else if qsm (s k) ∨ qbg (s k) then qel s k 11 (k + 1) (qb (qbg (s k))) + qb (qmk (s (qel s k 11 (k + 1) (qb (qbg (s k))))))
  else -1 - k
def qeo (s : Int → Int) (i : Int) : Int := qeo1 s (i + qb (s i = 42))
def qff (s : Int → Int) (n : Int) : Nat → Int → Int
  | 0, _ => 0
  | f + 1, k => if k < 0 then -1 - k else if k < n then (if qpt (s k) then qff s n f (qeo s (k + 1)) else k) else -1
def qTr (m : Int → Int → Int) : Prop := 0 ≤ m 37 2 ∧ m 37 2 ≤ 60 ∧ ∀ i, 0 ≤ i → i < m 37 2 → 0 ≤ m 38 i ∧ m 38 i < 65536
abbrev qms (m : Int → Int → Int) : Int → Int := qsg (m 38) (m 37 2)
theorem r_signAt (d : Nat) (S : zS) (i : Int) (h : 1 ≤ d) (hi : 0 ≤ i) (hK : qK S) (hP : qP (zm S)) (hT : qTr (zm S)) : zD d 199 [vr 37, vi i] S = some (.inl (some (vi (qms (zm S) i))), S) := by
  obtain ⟨e, rfl, -⟩ := qd h
  obtain ⟨hn0, hn, hr⟩ := hT
  have hr := hr i hi
  simp (config := { maxSteps := 2000000 }) (disch := first | omega | (simp only [K_37 hK, K_38 hK, P_37_1 hP, qb_in, qkW, qmW, qnW, true_and, and_true, or_self, true_or, or_true, and_self]; done) | (simp only [K_37 hK, K_38 hK, P_37_1 hP, qb_in, qkW, qmW, qnW, true_and, and_true, or_self, true_or, or_true, and_self]; omega)) only [zD_199, b199_0, b199_8, b199_17, b199_18, qcall_l, qcall_r, qretn_l, qJ_s, qJ_n, qV0, qEx, ↓qif0, ↓zchk_pos, ↓reduceIte, qput, qWW, qmW, qkW, qnW, K_37 hK, K_38 hK, P_37_1 hP]
  unfold qms qsg
  split
  · rename_i h2
    have hr := hr h2
    simp (disch := omega) only [zchk_pos]
  · rfl
theorem r_goesOn (d : Nat) (S : zS) (c so first : Int) (h : 3 ≤ d) : zD d 200 [vi c, vi so, vi first] S = some (.inl (some (vi (qb (qgo c so first)))), S) := by
  obtain ⟨e, rfl, h1⟩ := qd h
  simp (config := { maxSteps := 2000000 }) (disch := first | omega | (simp only [qb_in, qkW, qmW, qnW, true_and, and_true, or_self, true_or, or_true, and_self]; done) | (simp only [qb_in, qkW, qmW, qnW, true_and, and_true, or_self, true_or, or_true, and_self]; omega)) only [zD_200, b200_0, b200_6, b200_11, b200_15, b200_18, b200_21, b200_26, b200_31, b200_35, b200_38, b200_42, b200_45, b200_48, b200_52, b200_55, b200_59, b200_60, qcall_l, qcall_r, qretn_l, qJ_s, qJ_n, qV0, qEx, ↓qif0, ↓zchk_pos, ↓reduceIte, qput, qWW, qmW, qkW, qnW, r_isSmall, r_isBig]
  unfold qb
  repeat' split
  all_goals first | rfl | (exfalso; omega)
theorem r_eowD (d : Nat) (S : zS) (h : 2 ≤ d) (hK : qK S) (hP : qP (zm S)) (hT : qTr (zm S)) (first : Int) (h0 : 0 ≤ first) (h9 : first ≤ 100) : ∀ (f : Nat) (k : Int), first ≤ k → k ≤ 200 → 7 ≤ f + (k - first) →
    zF_201 d 31 [vr 37, vu, vi k, vi first, vu] [] S = zF_201 d 166 [vr 37, vu, vi (qed (qms (zm S)) first f k), vu, vu] [] S := by
  have g := fun d i h1 h2 => r_signAt d S i h1 h2 hK hP hT
  intro f
  induction f with
  | zero =>
    intro k h1 h2 h3
    rw [b201_31]
    simp (config := { maxSteps := 2000000 }) (disch := first | omega | (simp only [K_37 hK, qb_in, qkW, qmW, qnW, true_and, and_true, or_self, true_or, or_true, and_self]; done) | (simp only [K_37 hK, qb_in, qkW, qmW, qnW, true_and, and_true, or_self, true_or, or_true, and_self]; omega)) only [b201_0, b201_6, b201_11, b201_15, b201_16, b201_23, b201_26, b201_29, b201_36, b201_39, b201_42, b201_50, b201_56, b201_59, b201_64, b201_67, b201_70, b201_75, b201_78, b201_81, b201_85, b201_92, b201_95, b201_98, b201_102, b201_103, b201_113, b201_121, b201_124, b201_131, b201_137, b201_142, b201_145, b201_148, b201_152, b201_156, b201_158, b201_172, b201_175, b201_178, b201_182, b201_183, qcall_l, qcall_r, qretn_l, qJ_s, qJ_n, qV0, qEx, ↓qif0, ↓zchk_pos, ↓reduceIte, qput, qWW, qmW, qkW, qnW, K_37 hK, g, r_isDigit, q32, qed]
    repeat' split
    all_goals first | rfl | (exfalso; omega)
  | succ f ih =>
    intro k h1 h2 h3
    rw [b201_31]
    simp (config := { maxSteps := 2000000 }) (disch := first | omega | (simp only [K_37 hK, qb_in, qkW, qmW, qnW, true_and, and_true, or_self, true_or, or_true, and_self]; done) | (simp only [K_37 hK, qb_in, qkW, qmW, qnW, true_and, and_true, or_self, true_or, or_true, and_self]; omega)) only [b201_0, b201_6, b201_11, b201_15, b201_16, b201_23, b201_26, b201_29, b201_36, b201_39, b201_42, b201_50, b201_56, b201_59, b201_64, b201_67, b201_70, b201_75, b201_78, b201_81, b201_85, b201_92, b201_95, b201_98, b201_102, b201_103, b201_113, b201_121, b201_124, b201_131, b201_137, b201_142, b201_145, b201_148, b201_152, b201_156, b201_158, b201_172, b201_175, b201_178, b201_182, b201_183, qcall_l, qcall_r, qretn_l, qJ_s, qJ_n, qV0, qEx, ↓qif0, ↓zchk_pos, ↓reduceIte, qput, qWW, qmW, qkW, qnW, K_37 hK, g, r_isDigit, q32, qed]
    by_cases h6 : k - first < 6
    · simp (disch := omega) only [ih]
      repeat' split
      all_goals first | rfl | (exfalso; omega)
    · repeat' split
      all_goals first | rfl | (exfalso; omega)
theorem r_eowL (d : Nat) (S : zS) (h : 3 ≤ d) (hK : qK S) (hP : qP (zm S)) (hT : qTr (zm S)) (first : Int) (h0 : 0 ≤ first) (h9 : first ≤ 100) : ∀ (f : Nat) (k kind : Int), first < k → k ≤ 200 → 11 ≤ f + (k - first) →
    ∃ x : zV, zF_201 d 108 [vr 37, vu, vi k, vi first, vi kind] [] S = zF_201 d 166 [vr 37, vu, vi (qel (qms (zm S)) first f k kind), vi first, x] [] S := by
  have g := fun d i h1 h2 => r_signAt d S i h1 h2 hK hP hT
  intro f
  induction f with
  | zero =>
    intro k kind h1 h2 h3
    have hn : ¬ qgo (qms (zm S) k) (k - first) kind := by omega
    rw [b201_108]
    simp (config := { maxSteps := 2000000 }) (disch := first | omega | (simp only [K_37 hK, qb_in, qkW, qmW, qnW, true_and, and_true, or_self, true_or, or_true, and_self]; done) | (simp only [K_37 hK, qb_in, qkW, qmW, qnW, true_and, and_true, or_self, true_or, or_true, and_self]; omega)) only [b201_0, b201_6, b201_11, b201_15, b201_16, b201_23, b201_26, b201_29, b201_36, b201_39, b201_42, b201_50, b201_56, b201_59, b201_64, b201_67, b201_70, b201_75, b201_78, b201_81, b201_85, b201_92, b201_95, b201_98, b201_102, b201_103, b201_113, b201_121, b201_124, b201_131, b201_137, b201_142, b201_145, b201_148, b201_152, b201_156, b201_158, b201_172, b201_175, b201_178, b201_182, b201_183, qcall_l, qcall_r, qretn_l, qJ_s, qJ_n, qV0, qEx, ↓qif0, ↓zchk_pos, ↓reduceIte, qput, qWW, qmW, qkW, qnW, K_37 hK, g, r_goesOn, r_isBig, q32, qel]
    rw [if_neg hn]
    exact ⟨_, rfl⟩
  | succ f ih =>
    intro k kind h1 h2 h3
    by_cases hn : qgo (qms (zm S) k) (k - first) kind
    · obtain ⟨x, hx⟩ := ih (k + 1) (if k - first = 1 ∧ kind = 1 then (if qbg (qms (zm S) k) then 2 else 0) else kind) (by omega) (by omega) (by omega)
      refine ⟨x, ?_⟩
      rw [b201_108]
      simp (config := { maxSteps := 2000000 }) (disch := first | omega | (simp only [K_37 hK, qb_in, qkW, qmW, qnW, true_and, and_true, or_self, true_or, or_true, and_self]; done) | (simp only [K_37 hK, qb_in, qkW, qmW, qnW, true_and, and_true, or_self, true_or, or_true, and_self]; omega)) only [b201_0, b201_6, b201_11, b201_15, b201_16, b201_23, b201_26, b201_29, b201_36, b201_39, b201_42, b201_50, b201_56, b201_59, b201_64, b201_67, b201_70, b201_75, b201_78, b201_81, b201_85, b201_92, b201_95, b201_98, b201_102, b201_103, b201_113, b201_121, b201_124, b201_131, b201_137, b201_142, b201_145, b201_148, b201_152, b201_156, b201_158, b201_172, b201_175, b201_178, b201_182, b201_183, qcall_l, qcall_r, qretn_l, qJ_s, qJ_n, qV0, qEx, ↓qif0, ↓zchk_pos, ↓reduceIte, qput, qWW, qmW, qkW, qnW, K_37 hK, g, r_goesOn, r_isBig, q32, qel]
      rw [if_pos hn, if_pos hn, ← hx]
      repeat' split
      all_goals first | rfl | (exfalso; omega)
    · rw [b201_108]
      simp (config := { maxSteps := 2000000 }) (disch := first | omega | (simp only [K_37 hK, qb_in, qkW, qmW, qnW, true_and, and_true, or_self, true_or, or_true, and_self]; done) | (simp only [K_37 hK, qb_in, qkW, qmW, qnW, true_and, and_true, or_self, true_or, or_true, and_self]; omega)) only [b201_0, b201_6, b201_11, b201_15, b201_16, b201_23, b201_26, b201_29, b201_36, b201_39, b201_42, b201_50, b201_56, b201_59, b201_64, b201_67, b201_70, b201_75, b201_78, b201_81, b201_85, b201_92, b201_95, b201_98, b201_102, b201_103, b201_113, b201_121, b201_124, b201_131, b201_137, b201_142, b201_145, b201_148, b201_152, b201_156, b201_158, b201_172, b201_175, b201_178, b201_182, b201_183, qcall_l, qcall_r, qretn_l, qJ_s, qJ_n, qV0, qEx, ↓qif0, ↓zchk_pos, ↓reduceIte, qput, qWW, qmW, qkW, qnW, K_37 hK, g, r_goesOn, r_isBig, q32, qel]
      rw [if_neg hn, if_neg hn]
      exact ⟨_, rfl⟩
