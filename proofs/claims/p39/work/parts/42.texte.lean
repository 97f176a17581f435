/-! The two ways of reading a text agree. -/
theorem qed_in (s : Int → Int) (first : Int) : ∀ (f : Nat) (k : Int), k ≤ qed s first f k ∧ qed s first f k ≤ k + f
  | 0, k => ⟨Int.le_refl _, by show k ≤ k + ((0 : Nat) : Int); omega⟩
  | f + 1, k => by
    have ih := qed_in s first f (k + 1)
    simp only [qed]
    split <;> omega
theorem qel_in (s : Int → Int) (first : Int) : ∀ (f : Nat) (k kind : Int), k ≤ qel s first f k kind ∧ qel s first f k kind ≤ k + f
  | 0, k, _ => ⟨Int.le_refl _, by show k ≤ k + ((0 : Nat) : Int); omega⟩
  | f + 1, k, kind => by
    have ih := qel_in s first f (k + 1) (if k - first = 1 ∧ kind = 1 then (if qbg (s k) then 2 else 0) else kind)
    simp only [qel]
    split <;> omega
theorem qb_r (p : Prop) [Decidable p] : 0 ≤ qb p ∧ qb p ≤ 1 := by
  unfold qb
  split <;> omega
theorem qed_1 (s : Int → Int) (k : Int) (h : qdg (s k)) : k + 1 ≤ qed s k 7 k := by
  have ih := qed_in s k 6 (k + 1)
  have e : qed s k 7 k = qed s k 6 (k + 1) := by
    show (if qdg (s k) ∧ k - k < 6 then qed s k 6 (k + 1) else k) = _
    rw [if_pos ⟨h, by omega⟩]
  omega
theorem qeo1_in (s : Int → Int) (k : Int) (h : 0 ≤ k) : -1 - k ≤ qeo1 s k ∧ qeo1 s k ≤ k + 14 ∧ (0 ≤ qeo1 s k → k < qeo1 s k) := by
  unfold qeo1
  split
  · rename_i hd
    have h1 := qed_1 s k hd
    have h2 := qed_in s k 7 k
    have h3 := qb_r (qmk (s (qed s k 7 k)))
    omega
  · split
    · have h2 := qel_in s k 11 (k + 1) (qb (qbg (s k)))
      have h3 := qb_r (qmk (s (qel s k 11 (k + 1) (qb (qbg (s k))))))
      omega
    · omega
theorem qeo_in (s : Int → Int) (i : Int) (h : 0 ≤ i) : -2 - i ≤ qeo s i ∧ qeo s i ≤ i + 15 ∧ (0 ≤ qeo s i → i < qeo s i) := by
  unfold qeo
  have h1 := qb_r (s i = 42)
  have h2 := qeo1_in s (i + qb (s i = 42)) (by omega)
  omega
theorem r_eow166 (d : Nat) (S : zS) (h : 2 ≤ d) (hK : qK S) (hP : qP (zm S)) (hT : qTr (zm S)) (k : Int) (x1 x3 x4 : zV) (h0 : 0 ≤ k) (h9 : k ≤ 1000) :
    zF_201 d 166 [vr 37, x1, vi k, x3, x4] [] S = some (.inl (some (vi (k + qb (qmk (qms (zm S) k))))), S) := by
  have g := fun d i h1 h2 => r_signAt d S i h1 h2 hK hP hT
  simp (config := { maxSteps := 2000000 }) (disch := first | omega | (simp only [K_37 hK, qb_in, qkW, qmW, qnW, true_and, and_true, or_self, true_or, or_true, and_self]; done) | (simp only [K_37 hK, qb_in, qkW, qmW, qnW, true_and, and_true, or_self, true_or, or_true, and_self]; omega)) only [b201_0, b201_6, b201_11, b201_15, b201_16, b201_23, b201_26, b201_29, b201_36, b201_39, b201_42, b201_50, b201_56, b201_59, b201_64, b201_67, b201_70, b201_75, b201_78, b201_81, b201_85, b201_92, b201_95, b201_98, b201_102, b201_103, b201_113, b201_121, b201_124, b201_131, b201_137, b201_142, b201_145, b201_148, b201_152, b201_156, b201_158, b201_166, b201_172, b201_175, b201_178, b201_182, b201_183, qcall_l, qcall_r, qretn_l, qJ_s, qJ_n, qV0, qEx, ↓qif0, ↓zchk_pos, ↓reduceIte, qput, qWW, qmW, qkW, qnW, K_37 hK, g, r_isAnyMark, q32]
  by_cases hm : qmk (qms (zm S) k)
  · rw [if_pos hm, qb_p hm]
  · rw [if_neg hm, qb_n hm]
theorem r_endOfWord (d : Nat) (S : zS) (i : Int) (h : 4 ≤ d) (h0 : 0 ≤ i) (h9 : i ≤ 61) (hK : qK S) (hP : qP (zm S)) (hT : qTr (zm S)) : zD d 201 [vr 37, vi i] S = some (.inl (some (vi (qeo (qms (zm S)) i))), S) := by
  obtain ⟨e, rfl, h1⟩ := qd h
  have g := fun d i h1 h2 => r_signAt d S i h1 h2 hK hP hT
  have s1 : zF_201 e 0 [vr 37, vi i, vu, vu, vu] [] S = zF_201 e 23 [vr 37, vu, vi (i + qb (qms (zm S) i = 42)), vu, vu] [vi (qms (zm S) (i + qb (qms (zm S) i = 42)))] S := by
    simp (config := { maxSteps := 2000000 }) (disch := first | omega | (simp only [K_37 hK, qb_in, qkW, qmW, qnW, true_and, and_true, or_self, true_or, or_true, and_self]; done) | (simp only [K_37 hK, qb_in, qkW, qmW, qnW, true_and, and_true, or_self, true_or, or_true, and_self]; omega)) only [b201_0, b201_6, b201_11, b201_15, b201_16, b201_26, b201_29, b201_36, b201_39, b201_42, b201_50, b201_56, b201_59, b201_64, b201_67, b201_70, b201_75, b201_78, b201_81, b201_85, b201_92, b201_95, b201_98, b201_102, b201_103, b201_113, b201_121, b201_124, b201_131, b201_137, b201_142, b201_145, b201_148, b201_152, b201_156, b201_158, b201_166, b201_172, b201_175, b201_178, b201_182, b201_183, qcall_l, qcall_r, qretn_l, qJ_s, qJ_n, qV0, qEx, ↓qif0, ↓zchk_pos, ↓reduceIte, qput, qWW, qmW, qkW, qnW, K_37 hK, g, q32]
    by_cases hs : qms (zm S) i = 42
    · rw [if_pos hs, qb_p hs]
    · rw [if_neg hs, qb_n hs]
  rw [zD_201, s1]
  unfold qeo
  have hb := qb_r (qms (zm S) i = 42)
  generalize hk : i + qb (qms (zm S) i = 42) = k
  have hk0 : 0 ≤ k ∧ k ≤ 62 := by omega
  have d1 := fun x1 x3 x4 y h0 h9 => r_eow166 e S (by omega) hK hP hT y x1 x3 x4 h0 h9
  unfold qeo1
  by_cases hd : qdg (qms (zm S) k)
  · have dd := r_eowD e S (by omega) hK hP hT k (by omega) (by omega) 7 k (by omega) (by omega) (by omega)
    have hi := qed_in (qms (zm S)) k 7 k
    rw [if_pos hd]
    simp (config := { maxSteps := 2000000 }) (disch := first | omega | (simp only [K_37 hK, qb_in, qkW, qmW, qnW, true_and, and_true, or_self, true_or, or_true, and_self]; done) | (simp only [K_37 hK, qb_in, qkW, qmW, qnW, true_and, and_true, or_self, true_or, or_true, and_self]; omega)) only [b201_0, b201_6, b201_11, b201_15, b201_16, b201_23, b201_26, b201_29, b201_36, b201_39, b201_42, b201_50, b201_56, b201_59, b201_64, b201_67, b201_70, b201_75, b201_78, b201_81, b201_85, b201_92, b201_95, b201_98, b201_102, b201_103, b201_113, b201_121, b201_124, b201_131, b201_137, b201_142, b201_145, b201_148, b201_152, b201_156, b201_158, b201_172, b201_175, b201_178, b201_182, b201_183, qcall_l, qcall_r, qretn_l, qJ_s, qJ_n, qV0, qEx, ↓qif0, ↓zchk_pos, ↓reduceIte, qput, qWW, qmW, qkW, qnW, K_37 hK, g, r_isDigit, if_pos hd, dd, d1]
  · rw [if_neg hd]
    by_cases hl : qsm (qms (zm S) k) ∨ qbg (qms (zm S) k)
    · rw [if_pos hl]
      obtain ⟨x, dl⟩ := r_eowL e S (by omega) hK hP hT k (by omega) (by omega) 11 (k + 1) (qb (qbg (qms (zm S) k))) (by omega) (by omega) (by omega)
      have hi := qel_in (qms (zm S)) k 11 (k + 1) (qb (qbg (qms (zm S) k)))
      rw [← d1 vu (vi k) x _ (by omega) (by omega), ← dl]
      by_cases hb : qbg (qms (zm S) k)
      · rw [qb_p hb]
        by_cases hs : qsm (qms (zm S) k)
        · exfalso; omega
        · simp (config := { maxSteps := 2000000 }) (disch := first | omega | (simp only [K_37 hK, qb_in, qkW, qmW, qnW, true_and, and_true, or_self, true_or, or_true, and_self]; done) | (simp only [K_37 hK, qb_in, qkW, qmW, qnW, true_and, and_true, or_self, true_or, or_true, and_self]; omega)) only [b201_0, b201_6, b201_11, b201_15, b201_16, b201_23, b201_26, b201_29, b201_36, b201_39, b201_42, b201_50, b201_56, b201_59, b201_64, b201_67, b201_70, b201_75, b201_78, b201_81, b201_85, b201_92, b201_95, b201_98, b201_102, b201_103, b201_113, b201_121, b201_124, b201_131, b201_137, b201_142, b201_145, b201_148, b201_152, b201_156, b201_158, b201_172, b201_175, b201_178, b201_182, b201_183, qcall_l, qcall_r, qretn_l, qJ_s, qJ_n, qV0, qEx, ↓qif0, ↓zchk_pos, ↓reduceIte, qput, qWW, qmW, qkW, qnW, K_37 hK, g, r_isDigit, r_isSmall, r_isBig, if_neg hd, if_neg hs, if_pos hb, q32]
      · have hs : qsm (qms (zm S) k) := by omega
        rw [qb_n hb]
        simp (config := { maxSteps := 2000000 }) (disch := first | omega | (simp only [K_37 hK, qb_in, qkW, qmW, qnW, true_and, and_true, or_self, true_or, or_true, and_self]; done) | (simp only [K_37 hK, qb_in, qkW, qmW, qnW, true_and, and_true, or_self, true_or, or_true, and_self]; omega)) only [b201_0, b201_6, b201_11, b201_15, b201_16, b201_23, b201_26, b201_29, b201_36, b201_39, b201_42, b201_50, b201_56, b201_59, b201_64, b201_67, b201_70, b201_75, b201_78, b201_81, b201_85, b201_92, b201_95, b201_98, b201_102, b201_103, b201_113, b201_121, b201_124, b201_131, b201_137, b201_142, b201_145, b201_148, b201_152, b201_156, b201_158, b201_172, b201_175, b201_178, b201_182, b201_183, qcall_l, qcall_r, qretn_l, qJ_s, qJ_n, qV0, qEx, ↓qif0, ↓zchk_pos, ↓reduceIte, qput, qWW, qmW, qkW, qnW, K_37 hK, g, r_isDigit, r_isSmall, r_isBig, if_neg hd, if_pos hs, if_neg hb, q32]
    · rw [if_neg hl]
      have hs : ¬ qsm (qms (zm S) k) := by omega
      have hb : ¬ qbg (qms (zm S) k) := by omega
      simp (config := { maxSteps := 2000000 }) (disch := first | omega | (simp only [K_37 hK, qb_in, qkW, qmW, qnW, true_and, and_true, or_self, true_or, or_true, and_self]; done) | (simp only [K_37 hK, qb_in, qkW, qmW, qnW, true_and, and_true, or_self, true_or, or_true, and_self]; omega)) only [b201_0, b201_6, b201_11, b201_15, b201_16, b201_23, b201_26, b201_29, b201_36, b201_39, b201_42, b201_50, b201_56, b201_59, b201_64, b201_67, b201_70, b201_75, b201_78, b201_81, b201_85, b201_92, b201_95, b201_98, b201_102, b201_103, b201_113, b201_121, b201_124, b201_131, b201_137, b201_142, b201_145, b201_148, b201_152, b201_156, b201_158, b201_172, b201_175, b201_178, b201_182, b201_183, qcall_l, qcall_r, qretn_l, qJ_s, qJ_n, qV0, qEx, ↓qif0, ↓zchk_pos, ↓reduceIte, qput, qWW, qmW, qkW, qnW, K_37 hK, g, r_isDigit, r_isSmall, r_isBig, if_neg hd, if_neg hs, if_neg hb, q32]
theorem r_faultLoop (d : Nat) (S : zS) (h : 4 ≤ d) (hK : qK S) (hP : qP (zm S)) (hT : qTr (zm S)) : ∀ (f : Nat) (k : Int), -200 ≤ k → k ≤ 200 → 1 ≤ f → (0 ≤ k → zm S 37 2 + 1 ≤ f + k) →
    zF_202 d 6 [vr 37, vi k] [] S = some (.inl (some (vi (qff (qms (zm S)) (zm S 37 2) f k))), S) := by
  have g := fun d i h1 h2 => r_signAt d S i h1 h2 hK hP hT
  have g2 := fun d i h1 h2 h3 => r_endOfWord d S i h1 h2 h3 hK hP hT
  have hT := hT
  obtain ⟨hn0, hn, hr⟩ := hT
  intro f
  induction f with
  | zero => intro k _ _ h1; omega
  | succ f ih =>
    intro k h1 h2 h3 h4
    rw [b202_6]
    simp only [qff]
    by_cases hk : k < 0
    · rw [if_pos hk, if_pos hk]
      simp (config := { maxSteps := 2000000 }) (disch := first | omega | (simp only [K_37 hK, qb_in, qkW, qmW, qnW, true_and, and_true, or_self, true_or, or_true, and_self]; done) | (simp only [K_37 hK, qb_in, qkW, qmW, qnW, true_and, and_true, or_self, true_or, or_true, and_self]; omega)) only [b202_0, b202_5, b202_10, b202_18, b202_23, b202_26, b202_29, b202_36, b202_39, b202_42, b202_46, b202_50, b202_56, b202_57, qcall_l, qcall_r, qretn_l, qJ_s, qJ_n, qV0, qEx, ↓qif0, ↓zchk_pos, ↓reduceIte, qput, qWW, qmW, qkW, qnW, K_37 hK, if_pos hk, q32]
    · rw [if_neg hk, if_neg hk]
      by_cases hl : k < zm S 37 2
      · rw [if_pos hl]
        by_cases hp : qpt (qms (zm S) k)
        · rw [if_pos hp]
          have hi := qeo_in (qms (zm S)) (k + 1) (by omega)
          simp (config := { maxSteps := 2000000 }) (disch := first | omega | (simp only [K_37 hK, qb_in, qkW, qmW, qnW, true_and, and_true, or_self, true_or, or_true, and_self]; done) | (simp only [K_37 hK, qb_in, qkW, qmW, qnW, true_and, and_true, or_self, true_or, or_true, and_self]; omega)) only [b202_0, b202_5, b202_10, b202_18, b202_23, b202_26, b202_29, b202_36, b202_39, b202_42, b202_46, b202_50, b202_56, b202_57, qcall_l, qcall_r, qretn_l, qJ_s, qJ_n, qV0, qEx, ↓qif0, ↓zchk_pos, ↓reduceIte, qput, qWW, qmW, qkW, qnW, K_37 hK, if_pos hl, g, g2, q32, r_isPart, if_pos hp]
          exact ih _ (by omega) (by omega) (by omega) (by omega)
        · rw [if_neg hp]
          obtain ⟨f', rfl⟩ : ∃ f', f = f' + 1 := ⟨f - 1, by omega⟩
          have ih := ih (-1 - k) (by omega) (by omega) (by omega) (by omega)
          simp only [qff] at ih
          rw [if_pos (by omega), show -1 - (-1 - k) = k by omega] at ih
          simp (config := { maxSteps := 2000000 }) (disch := first | omega | (simp only [K_37 hK, qb_in, qkW, qmW, qnW, true_and, and_true, or_self, true_or, or_true, and_self]; done) | (simp only [K_37 hK, qb_in, qkW, qmW, qnW, true_and, and_true, or_self, true_or, or_true, and_self]; omega)) only [b202_0, b202_5, b202_10, b202_18, b202_23, b202_26, b202_29, b202_36, b202_39, b202_42, b202_46, b202_50, b202_56, b202_57, qcall_l, qcall_r, qretn_l, qJ_s, qJ_n, qV0, qEx, ↓qif0, ↓zchk_pos, ↓reduceIte, qput, qWW, qmW, qkW, qnW, K_37 hK, if_pos hl, g, q32, r_isPart, if_neg hp]
          exact ih
      · rw [if_neg hl]
        simp (config := { maxSteps := 2000000 }) (disch := first | omega | (simp only [K_37 hK, qb_in, qkW, qmW, qnW, true_and, and_true, or_self, true_or, or_true, and_self]; done) | (simp only [K_37 hK, qb_in, qkW, qmW, qnW, true_and, and_true, or_self, true_or, or_true, and_self]; omega)) only [b202_0, b202_5, b202_10, b202_18, b202_23, b202_26, b202_29, b202_36, b202_39, b202_42, b202_46, b202_50, b202_56, b202_57, qcall_l, qcall_r, qretn_l, qJ_s, qJ_n, qV0, qEx, ↓qif0, ↓zchk_pos, ↓reduceIte, qput, qWW, qmW, qkW, qnW, K_37 hK, if_neg hl, if_neg hk]
def qff0 (s : Int → Int) (n : Int) : Int := qff s n (n.toNat + 3) (qeo s 0)
theorem r_faultOf (d : Nat) (S : zS) (h : 5 ≤ d) (hK : qK S) (hP : qP (zm S)) (hT : qTr (zm S)) : zD d 202 [vr 37] S = some (.inl (some (vi (qff0 (qms (zm S)) (zm S 37 2)))), S) := by
  obtain ⟨e, rfl, h1⟩ := qd h
  have g2 := fun d i h1 h2 h3 => r_endOfWord d S i h1 h2 h3 hK hP hT
  have hi := qeo_in (qms (zm S)) 0 (by omega)
  have hl := r_faultLoop e S h1 hK hP hT ((zm S 37 2).toNat + 3) (qeo (qms (zm S)) 0) (by omega) (by omega) (by omega) (by omega)
  simp (config := { maxSteps := 2000000 }) (disch := first | omega | (simp only [K_37 hK, qb_in, qkW, qmW, qnW, true_and, and_true, or_self, true_or, or_true, and_self]; done) | (simp only [K_37 hK, qb_in, qkW, qmW, qnW, true_and, and_true, or_self, true_or, or_true, and_self]; omega)) only [zD_202, b202_0, b202_5, b202_10, b202_18, b202_23, b202_26, b202_29, b202_36, b202_39, b202_42, b202_46, b202_50, b202_56, b202_57, qcall_l, qcall_r, qretn_l, qJ_s, qJ_n, qV0, qEx, ↓qif0, ↓zchk_pos, ↓reduceIte, qput, qWW, qmW, qkW, qnW, K_37 hK, g2, hl]
  rfl
