/-! The post: wishes, who holds what, how late. -/
def qwi (m : Int → Int → Int) (r b : Int) : Nat → Int
  | 0 => -1
  | k + 1 => if m 93 k = r ∧ m 94 k = b then (k : Int) else qwi m r b k
theorem qwi_r (m : Int → Int → Int) (r b : Int) : ∀ k : Nat, -1 ≤ qwi m r b k ∧ qwi m r b k < k := by
  intro k
  induction k with
  | zero => exact ⟨Int.le_refl _, by show (-1 : Int) < 0; decide⟩
  | succ k ih =>
    rw [qwi]
    split <;> omega
theorem qwi_n (m : Int → Int → Int) (r b : Int) : ∀ k : Nat, (∀ i : Int, 0 ≤ i → i < k → ¬ (m 93 i = r ∧ m 94 i = b)) → qwi m r b k = -1 := by
  intro k
  induction k with
  | zero => intro _; rfl
  | succ k ih =>
    intro h
    rw [qwi, if_neg (h k (by omega) (by omega))]
    exact ih fun i i1 i2 => h i i1 (by omega)
theorem qwi_y (m : Int → Int → Int) (r b : Int) (i : Nat) (h : m 93 i = r ∧ m 94 i = b) : ∀ k : Nat, i < k → (∀ j : Int, (i : Int) < j → j < k → ¬ (m 93 j = r ∧ m 94 j = b)) → qwi m r b k = i := by
  intro k
  induction k with
  | zero => intro hk; omega
  | succ k ih =>
    intro hk hj
    rw [qwi]
    by_cases c : i = k
    · rw [← c, if_pos h]
    · rw [if_neg (hj k (by omega) (by omega))]
      exact ih (by omega) fun j j1 j2 => hj j j1 (by omega)
theorem qwi_is (m : Int → Int → Int) (r b : Int) : ∀ k : Nat, qwi m r b k ≠ -1 → m 93 (qwi m r b k) = r ∧ m 94 (qwi m r b k) = b := by
  intro k
  induction k with
  | zero => intro h; exact absurd rfl h
  | succ k ih =>
    intro h
    rw [qwi] at h ⊢
    by_cases c : m 93 k = r ∧ m 94 k = b
    · rw [if_pos c]; exact c
    · rw [if_neg c] at h ⊢
      exact ih h
/-- the wishes of both -/
def qYw (S : zS) : Prop := (zm S 15 2 = zm S 37 80 ∧ 0 ≤ zm S 37 80 ∧ zm S 37 80 ≤ 30) ∧ (∀ k, 0 ≤ k → k < zm S 37 80 → zm S 16 k = zm S 93 k ∧ zm S 17 k = zm S 94 k ∧ (0 ≤ zm S 93 k ∧ zm S 93 k < zm S 37 76) ∧ (0 ≤ zm S 94 k ∧ zm S 94 k < zm S 37 16)) ∧ ∀ i k, 0 ≤ i → i < k → k < zm S 37 80 → ¬ (zm S 93 i = zm S 93 k ∧ zm S 94 i = zm S 94 k)
theorem r_wishOf (d : Nat) (S : zS) (r b : Int) (h : 1 ≤ d) (hK : qK S) (hP : qP (zm S)) (hn : 0 ≤ zm S 37 80 ∧ zm S 37 80 ≤ 30) : zD d 294 [vr 37, vi r, vi b] S = some (.inl (some (vi (qwi (zm S) r b (zm S 37 80).toNat))), S) := by
  obtain ⟨e, rfl, -⟩ := qd h
  have lp : ∀ (g i : Nat), i + g = (zm S 37 80).toNat → zF_294 e 5 [vr 37, vi r, vi b, vi (qwi (zm S) r b i), vi i] [] S = some (.inl (some (vi (qwi (zm S) r b (zm S 37 80).toNat))), S) := by
    intro g
    induction g with
    | zero =>
      intro i hi
      obtain rfl : i = (zm S 37 80).toNat := by omega
      rw [b294_5]
      simp (config := { maxSteps := 2000000 }) (disch := first | omega | (simp only [K_37 hK, qb_in, qkW, qmW, qnW, true_and, and_true, or_self, true_or, or_true, and_self]; done) | (simp only [K_37 hK, qb_in, qkW, qmW, qnW, true_and, and_true, or_self, true_or, or_true, and_self]; omega)) only [b294_0, b294_14, b294_25, b294_36, b294_41, b294_42, b294_49, qcall_l, qcall_r, qretn_l, qJ_s, qJ_n, qV0, qEx, ↓qif0, ↓zchk_pos, ↓reduceIte, qput, qWW, qmW, qkW, qnW, K_37 hK, if_neg (show ¬ (((zm S 37 80).toNat : Nat) : Int) < zm S 37 80 by omega)]
    | succ g ih =>
      intro i hi
      have r1 := ih (i + 1) (by omega)
      rw [qwi] at r1
      rw [b294_5]
      by_cases c1 : zm S 93 i = r
      · by_cases c2 : zm S 94 i = b
        · rw [if_pos ⟨c1, c2⟩] at r1
          simp (config := { maxSteps := 2000000 }) (disch := first | omega | (simp only [K_37 hK, K_93 hK, K_94 hK, P_37_81 hP, P_37_82 hP, qb_in, qkW, qmW, qnW, true_and, and_true, or_self, true_or, or_true, and_self]; done) | (simp only [K_37 hK, K_93 hK, K_94 hK, P_37_81 hP, P_37_82 hP, qb_in, qkW, qmW, qnW, true_and, and_true, or_self, true_or, or_true, and_self]; omega)) only [b294_0, b294_14, b294_25, b294_36, b294_41, b294_42, b294_49, qcall_l, qcall_r, qretn_l, qJ_s, qJ_n, qV0, qEx, ↓qif0, ↓zchk_pos, ↓reduceIte, qput, qWW, qmW, qkW, qnW, K_37 hK, K_93 hK, K_94 hK, P_37_81 hP, P_37_82 hP, if_pos (show (i : Int) < zm S 37 80 by omega), if_pos c1, if_pos c2, q32]
          exact r1
        · rw [if_neg fun z => c2 z.2] at r1
          simp (config := { maxSteps := 2000000 }) (disch := first | omega | (simp only [K_37 hK, K_93 hK, K_94 hK, P_37_81 hP, P_37_82 hP, qb_in, qkW, qmW, qnW, true_and, and_true, or_self, true_or, or_true, and_self]; done) | (simp only [K_37 hK, K_93 hK, K_94 hK, P_37_81 hP, P_37_82 hP, qb_in, qkW, qmW, qnW, true_and, and_true, or_self, true_or, or_true, and_self]; omega)) only [b294_0, b294_14, b294_25, b294_36, b294_41, b294_42, b294_49, qcall_l, qcall_r, qretn_l, qJ_s, qJ_n, qV0, qEx, ↓qif0, ↓zchk_pos, ↓reduceIte, qput, qWW, qmW, qkW, qnW, K_37 hK, K_93 hK, K_94 hK, P_37_81 hP, P_37_82 hP, if_pos (show (i : Int) < zm S 37 80 by omega), if_pos c1, if_neg c2, q32]
          exact r1
      · rw [if_neg fun z => c1 z.1] at r1
        simp (config := { maxSteps := 2000000 }) (disch := first | omega | (simp only [K_37 hK, K_93 hK, K_94 hK, P_37_81 hP, P_37_82 hP, qb_in, qkW, qmW, qnW, true_and, and_true, or_self, true_or, or_true, and_self]; done) | (simp only [K_37 hK, K_93 hK, K_94 hK, P_37_81 hP, P_37_82 hP, qb_in, qkW, qmW, qnW, true_and, and_true, or_self, true_or, or_true, and_self]; omega)) only [b294_0, b294_14, b294_25, b294_36, b294_41, b294_42, b294_49, qcall_l, qcall_r, qretn_l, qJ_s, qJ_n, qV0, qEx, ↓qif0, ↓zchk_pos, ↓reduceIte, qput, qWW, qmW, qkW, qnW, K_37 hK, K_93 hK, K_94 hK, P_37_81 hP, P_37_82 hP, if_pos (show (i : Int) < zm S 37 80 by omega), if_neg c1, q32]
        exact r1
  have r1 := lp (zm S 37 80).toNat 0 (by omega)
  simp (config := { maxSteps := 2000000 }) (disch := first | omega | (simp only [qb_in, qkW, qmW, qnW, true_and, and_true, or_self, true_or, or_true, and_self]; done) | (simp only [qb_in, qkW, qmW, qnW, true_and, and_true, or_self, true_or, or_true, and_self]; omega)) only [zD_294, b294_0, b294_14, b294_25, b294_36, b294_41, b294_42, b294_49, qcall_l, qcall_r, qretn_l, qJ_s, qJ_n, qV0, qEx, ↓qif0, ↓zchk_pos, ↓reduceIte, qput, qWW, qmW, qkW, qnW]
  exact r1
theorem s_find (d : Nat) (S : zS) (r b : Int) (h : 1 ≤ d) (hK : qK S) (hP : qP (zm S)) (hw : qYw S) : zD d 103 [vr 15, vi r, vi b] S = some (.inl (some (vi (qwi (zm S) r b (zm S 37 80).toNat))), S) := by
  obtain ⟨e, rfl, -⟩ := qd h
  obtain ⟨⟨n1, n2⟩, w1, w2⟩ := hw
  have lp : ∀ (g i : Nat), i + g = (zm S 37 80).toNat → (∀ k : Int, 0 ≤ k → k < i → ¬ (zm S 93 k = r ∧ zm S 94 k = b)) → zF_103 e 2 [vr 15, vi r, vi b, vi i] [] S = some (.inl (some (vi (qwi (zm S) r b (zm S 37 80).toNat))), S) := by
    intro g
    induction g with
    | zero =>
      intro i hi hq
      obtain rfl : i = (zm S 37 80).toNat := by omega
      rw [qwi_n _ _ _ _ hq, b103_2]
      simp (config := { maxSteps := 2000000 }) (disch := first | omega | (simp only [K_15 hK, qb_in, qkW, qmW, qnW, true_and, and_true, or_self, true_or, or_true, and_self]; done) | (simp only [K_15 hK, qb_in, qkW, qmW, qnW, true_and, and_true, or_self, true_or, or_true, and_self]; omega)) only [b103_0, b103_10, b103_20, b103_30, b103_32, b103_38, qcall_l, qcall_r, qretn_l, qJ_s, qJ_n, qV0, qEx, ↓qif0, ↓zchk_pos, ↓reduceIte, qput, qWW, qmW, qkW, qnW, K_15 hK, n1, if_neg (show ¬ (((zm S 37 80).toNat : Nat) : Int) < zm S 37 80 by omega)]
    | succ g ih =>
      intro i hi hq
      have hlt : (i : Int) < zm S 37 80 := by omega
      obtain ⟨e1, e2, -⟩ := w1 i (by omega) hlt
      rw [b103_2]
      by_cases c1 : zm S 93 i = r
      · by_cases c2 : zm S 94 i = b
        · rw [qwi_y _ _ _ i ⟨c1, c2⟩ _ (by omega) (fun j j1 j2 z => w2 i j (by omega) j1 (by omega) ⟨by rw [c1, z.1], by rw [c2, z.2]⟩)]
          simp (config := { maxSteps := 2000000 }) (disch := first | omega | (simp only [K_15 hK, K_16 hK, K_17 hK, P_15_0 hP, P_15_1 hP, qb_in, qkW, qmW, qnW, true_and, and_true, or_self, true_or, or_true, and_self]; done) | (simp only [K_15 hK, K_16 hK, K_17 hK, P_15_0 hP, P_15_1 hP, qb_in, qkW, qmW, qnW, true_and, and_true, or_self, true_or, or_true, and_self]; omega)) only [b103_0, b103_10, b103_20, b103_30, b103_32, b103_38, qcall_l, qcall_r, qretn_l, qJ_s, qJ_n, qV0, qEx, ↓qif0, ↓zchk_pos, ↓reduceIte, qput, qWW, qmW, qkW, qnW, K_15 hK, K_16 hK, K_17 hK, P_15_0 hP, P_15_1 hP, n1, e1, e2, if_pos hlt, if_pos c1, if_pos c2, q32]
        · have r1 := ih (i + 1) (by omega) (fun k k1 k2 z => by
            by_cases c3 : k = i
            · rw [c3] at z; exact c2 z.2
            · exact hq k k1 (by omega) z)
          simp (config := { maxSteps := 2000000 }) (disch := first | omega | (simp only [K_15 hK, K_16 hK, K_17 hK, P_15_0 hP, P_15_1 hP, qb_in, qkW, qmW, qnW, true_and, and_true, or_self, true_or, or_true, and_self]; done) | (simp only [K_15 hK, K_16 hK, K_17 hK, P_15_0 hP, P_15_1 hP, qb_in, qkW, qmW, qnW, true_and, and_true, or_self, true_or, or_true, and_self]; omega)) only [b103_0, b103_10, b103_20, b103_30, b103_32, b103_38, qcall_l, qcall_r, qretn_l, qJ_s, qJ_n, qV0, qEx, ↓qif0, ↓zchk_pos, ↓reduceIte, qput, qWW, qmW, qkW, qnW, K_15 hK, K_16 hK, K_17 hK, P_15_0 hP, P_15_1 hP, n1, e1, e2, if_pos hlt, if_pos c1, if_neg c2, q32]
          exact r1
      · have r1 := ih (i + 1) (by omega) (fun k k1 k2 z => by
          by_cases c3 : k = i
          · rw [c3] at z; exact c1 z.1
          · exact hq k k1 (by omega) z)
        simp (config := { maxSteps := 2000000 }) (disch := first | omega | (simp only [K_15 hK, K_16 hK, K_17 hK, P_15_0 hP, P_15_1 hP, qb_in, qkW, qmW, qnW, true_and, and_true, or_self, true_or, or_true, and_self]; done) | (simp only [K_15 hK, K_16 hK, K_17 hK, P_15_0 hP, P_15_1 hP, qb_in, qkW, qmW, qnW, true_and, and_true, or_self, true_or, or_true, and_self]; omega)) only [b103_0, b103_10, b103_20, b103_30, b103_32, b103_38, qcall_l, qcall_r, qretn_l, qJ_s, qJ_n, qV0, qEx, ↓qif0, ↓zchk_pos, ↓reduceIte, qput, qWW, qmW, qkW, qnW, K_15 hK, K_16 hK, K_17 hK, P_15_0 hP, P_15_1 hP, n1, e1, e2, if_pos hlt, if_neg c1, q32]
        exact r1
  have r1 := lp (zm S 37 80).toNat 0 (by omega) (fun k k1 k2 => by
    have : k < (0 : Int) := k2
    omega)
  simp (config := { maxSteps := 2000000 }) (disch := first | omega | (simp only [qb_in, qkW, qmW, qnW, true_and, and_true, or_self, true_or, or_true, and_self]; done) | (simp only [qb_in, qkW, qmW, qnW, true_and, and_true, or_self, true_or, or_true, and_self]; omega)) only [zD_103, b103_0, b103_10, b103_20, b103_30, b103_32, b103_38, qcall_l, qcall_r, qretn_l, qJ_s, qJ_n, qV0, qEx, ↓qif0, ↓zchk_pos, ↓reduceIte, qput, qWW, qmW, qkW, qnW]
  exact r1
/-- how many wishes wait for a book -/
def qcf (m : Int → Int → Int) (b : Int) : Nat → Int
  | 0 => 0
  | k + 1 => qcf m b k + if m 94 k = b then 1 else 0
theorem qcf_r (m : Int → Int → Int) (b : Int) : ∀ k : Nat, 0 ≤ qcf m b k ∧ qcf m b k ≤ k := by
  intro k
  induction k with
  | zero => exact ⟨Int.le_refl _, Int.le_refl _⟩
  | succ k ih =>
    rw [qcf]
    split <;> omega
theorem s_countFor (d : Nat) (S : zS) (b n : Int) (h : 1 ≤ d) (hK : qK S) (hP : qP (zm S)) (h2 : zm S 15 2 = n) (hn : 0 ≤ n ∧ n ≤ 30) (hw : ∀ k, 0 ≤ k → k < n → zm S 17 k = zm S 94 k) : zD d 104 [vr 15, vi b] S = some (.inl (some (vi (qcf (zm S) b n.toNat))), S) := by
  obtain ⟨e, rfl, -⟩ := qd h
  have lp : ∀ (g i : Nat), i + g = n.toNat → zF_104 e 4 [vr 15, vi b, vi (qcf (zm S) b i), vi i] [] S = some (.inl (some (vi (qcf (zm S) b n.toNat))), S) := by
    intro g
    induction g with
    | zero =>
      intro i hi
      obtain rfl : i = n.toNat := by omega
      rw [b104_4]
      simp (config := { maxSteps := 2000000 }) (disch := first | omega | (simp only [K_15 hK, qb_in, qkW, qmW, qnW, true_and, and_true, or_self, true_or, or_true, and_self]; done) | (simp only [K_15 hK, qb_in, qkW, qmW, qnW, true_and, and_true, or_self, true_or, or_true, and_self]; omega)) only [b104_0, b104_12, b104_22, b104_25, b104_31, qcall_l, qcall_r, qretn_l, qJ_s, qJ_n, qV0, qEx, ↓qif0, ↓zchk_pos, ↓reduceIte, qput, qWW, qmW, qkW, qnW, K_15 hK, h2, if_neg (show ¬ ((n.toNat : Nat) : Int) < n by omega)]
    | succ g ih =>
      intro i hi
      have hlt : (i : Int) < n := by omega
      have e2 := hw i (by omega) hlt
      have hr := qcf_r (zm S) b i
      have r1 := ih (i + 1) (by omega)
      rw [qcf] at r1
      rw [b104_4]
      by_cases c : zm S 94 i = b
      · rw [if_pos c] at r1
        simp (config := { maxSteps := 2000000 }) (disch := first | omega | (simp only [K_15 hK, K_17 hK, P_15_1 hP, qb_in, qkW, qmW, qnW, true_and, and_true, or_self, true_or, or_true, and_self]; done) | (simp only [K_15 hK, K_17 hK, P_15_1 hP, qb_in, qkW, qmW, qnW, true_and, and_true, or_self, true_or, or_true, and_self]; omega)) only [b104_0, b104_12, b104_22, b104_25, b104_31, qcall_l, qcall_r, qretn_l, qJ_s, qJ_n, qV0, qEx, ↓qif0, ↓zchk_pos, ↓reduceIte, qput, qWW, qmW, qkW, qnW, K_15 hK, K_17 hK, P_15_1 hP, h2, e2, if_pos hlt, if_pos c, q32]
        exact r1
      · rw [if_neg c, Int.add_zero] at r1
        simp (config := { maxSteps := 2000000 }) (disch := first | omega | (simp only [K_15 hK, K_17 hK, P_15_1 hP, qb_in, qkW, qmW, qnW, true_and, and_true, or_self, true_or, or_true, and_self]; done) | (simp only [K_15 hK, K_17 hK, P_15_1 hP, qb_in, qkW, qmW, qnW, true_and, and_true, or_self, true_or, or_true, and_self]; omega)) only [b104_0, b104_12, b104_22, b104_25, b104_31, qcall_l, qcall_r, qretn_l, qJ_s, qJ_n, qV0, qEx, ↓qif0, ↓zchk_pos, ↓reduceIte, qput, qWW, qmW, qkW, qnW, K_15 hK, K_17 hK, P_15_1 hP, h2, e2, if_pos hlt, if_neg c, q32]
        exact r1
  have r1 := lp n.toNat 0 (by omega)
  simp (config := { maxSteps := 2000000 }) (disch := first | omega | (simp only [qb_in, qkW, qmW, qnW, true_and, and_true, or_self, true_or, or_true, and_self]; done) | (simp only [qb_in, qkW, qmW, qnW, true_and, and_true, or_self, true_or, or_true, and_self]; omega)) only [zD_104, b104_0, b104_12, b104_22, b104_25, b104_31, qcall_l, qcall_r, qretn_l, qJ_s, qJ_n, qV0, qEx, ↓qif0, ↓zchk_pos, ↓reduceIte, qput, qWW, qmW, qkW, qnW]
  exact r1
/-- a wish more -/
theorem s_wishAppend (d : Nat) (S : zS) (r b n : Int) (h : 1 ≤ d) (hK : qK S) (hP : qP (zm S)) (h2 : zm S 15 2 = n) (hn : 0 ≤ n ∧ n < 30) : zD d 105 [vr 15, vi r, vi b] S = some (.inl none, qW S (qu (qu (qu (zm S) 16 n r) 17 n b) 15 2 (n + 1))) := by
  obtain ⟨e, rfl, -⟩ := qd h
  have e1 : qu (zm S) 16 n r 15 = zm S 15 := qu_o _ _ _ _ _ (by decide)
  have e2 : qu (qu (zm S) 16 n r) 17 n b 15 = zm S 15 := by rw [qu_o _ _ _ _ _ (by decide), e1]
  simp (config := { maxSteps := 2000000 }) (disch := first | omega | (simp only [K_15 hK, K_16 hK, K_17 hK, P_15_0 hP, P_15_1 hP, h2, e1, e2, qb_in, qkW, qmW, qnW, true_and, and_true, or_self, true_or, or_true, and_self]; done) | (simp only [K_15 hK, K_16 hK, K_17 hK, P_15_0 hP, P_15_1 hP, h2, e1, e2, qb_in, qkW, qmW, qnW, true_and, and_true, or_self, true_or, or_true, and_self]; omega)) only [zD_105, b105_0, b105_9, b105_27, b105_39, qcall_l, qcall_r, qretn_l, qJ_s, qJ_n, qV0, qEx, ↓qif0, ↓zchk_pos, ↓reduceIte, qput, qWW, qmW, qkW, qnW, K_15 hK, K_16 hK, K_17 hK, P_15_0 hP, P_15_1 hP, h2, e1, e2, if_pos hn.2, q32]
/-- a wish is taken away -/
def qrm (a : Int → Int) (w n : Int) : Int → Int := fun i => if w ≤ i ∧ i < n - 1 then a (i + 1) else a i
theorem s_wishRemove (d : Nat) (S : zS) (w n : Int) (h : 1 ≤ d) (hK : qK S) (hP : qP (zm S)) (h2 : zm S 15 2 = n) (hn : 0 ≤ w ∧ w < n ∧ n ≤ 30) :
    ∃ m', zD d 106 [vr 15, vi w] S = some (.inl none, qW S m') ∧ m' 15 2 = n - 1 ∧ (∀ j, j ≠ 2 → m' 15 j = zm S 15 j) ∧ m' 16 = qrm (zm S 16) w n ∧ m' 17 = qrm (zm S 17) w n ∧ ∀ x, x ≠ 15 → x ≠ 16 → x ≠ 17 → m' x = zm S x := by
  obtain ⟨e, rfl, -⟩ := qd h
  have lp : ∀ (g : Nat) (i : Int) (m : Int → Int → Int) (x1 : zV), w ≤ i → i + g = n - 1 → m 15 2 = n - 1 → (∀ j, j ≠ 2 → m 15 j = zm S 15 j) → (∀ p, m 16 p = if w ≤ p ∧ p < i then zm S 16 (p + 1) else zm S 16 p) → (∀ p, m 17 p = if w ≤ p ∧ p < i then zm S 17 (p + 1) else zm S 17 p) → (∀ x, x ≠ 15 → x ≠ 16 → x ≠ 17 → m x = zm S x) →
      ∃ m', zF_106 e 25 [vr 15, x1, vi i] [] (qW S m) = some (.inl none, qW S m') ∧ m' 15 2 = n - 1 ∧ (∀ j, j ≠ 2 → m' 15 j = zm S 15 j) ∧ m' 16 = qrm (zm S 16) w n ∧ m' 17 = qrm (zm S 17) w n ∧ ∀ x, x ≠ 15 → x ≠ 16 → x ≠ 17 → m' x = zm S x := by
    intro g
    induction g with
    | zero =>
      intro i m x1 hi hg f0 f1 f2 f3 f4
      have hi2 : i = n - 1 := by omega
      refine ⟨m, ?_, f0, f1, funext fun p => by rw [f2, hi2]; rfl, funext fun p => by rw [f3, hi2]; rfl, f4⟩
      rw [b106_25]
      simp (config := { maxSteps := 2000000 }) (disch := first | omega | (simp only [K_15 hK, f0, qb_in, qkW, qmW, qnW, true_and, and_true, or_self, true_or, or_true, and_self]; done) | (simp only [K_15 hK, f0, qb_in, qkW, qmW, qnW, true_and, and_true, or_self, true_or, or_true, and_self]; omega)) only [b106_0, b106_4, b106_12, b106_13, b106_33, b106_47, b106_61, b106_67, qcall_l, qcall_r, qretn_l, qJ_s, qJ_n, qV0, qEx, ↓qif0, ↓zchk_pos, ↓reduceIte, qput, qWW, qmW, qkW, qnW, K_15 hK, f0, hi2, Int.lt_irrefl]
    | succ g ih =>
      intro i m x1 hi hg f0 f1 f2 f3 f4
      have p0 : m 15 0 = 16 := by rw [f1 0 (by decide)]; exact P_15_0 hP
      have p1 : m 15 1 = 17 := by rw [f1 1 (by decide)]; exact P_15_1 hP
      obtain ⟨M1, hM1⟩ : ∃ M1, qu m 16 i (m 16 (i + 1)) = M1 := ⟨_, rfl⟩
      have a15 : M1 15 = m 15 := by rw [← hM1, qu_o _ _ _ _ _ (by decide)]
      have a17 : M1 17 = m 17 := by rw [← hM1, qu_o _ _ _ _ _ (by decide)]
      obtain ⟨m', r, z⟩ := ih (i + 1) (qu M1 17 i (m 17 (i + 1))) vu (by omega) (by omega) (by rw [qu_o _ _ _ _ _ (by decide), a15, f0]) (fun j hj => by rw [qu_o _ _ _ _ _ (by decide), a15, f1 j hj]) (fun p => by
        rw [qu_o _ _ _ _ _ (by decide), ← hM1, qu_row]
        show (if p = i then m 16 (i + 1) else m 16 p) = _
        rw [f2 (i + 1), f2 p, if_neg (show ¬ (w ≤ i + 1 ∧ i + 1 < i) by omega)]
        by_cases c : p = i
        · rw [if_pos c, if_pos (by omega), c]
        · rw [if_neg c]
          by_cases c2 : w ≤ p ∧ p < i
          · rw [if_pos c2, if_pos (by omega)]
          · rw [if_neg c2, if_neg (by omega)]) (fun p => by
        rw [qu_row]
        show (if p = i then m 17 (i + 1) else M1 17 p) = _
        rw [a17, f3 (i + 1), f3 p, if_neg (show ¬ (w ≤ i + 1 ∧ i + 1 < i) by omega)]
        by_cases c : p = i
        · rw [if_pos c, if_pos (by omega), c]
        · rw [if_neg c]
          by_cases c2 : w ≤ p ∧ p < i
          · rw [if_pos c2, if_pos (by omega)]
          · rw [if_neg c2, if_neg (by omega)]) (fun x x1 x2 x3 => by rw [qu_o _ _ _ _ _ x3, ← hM1, qu_o _ _ _ _ _ x2, f4 x x1 x2 x3])
      refine ⟨m', ?_, z⟩
      have q0 : M1 15 0 = 16 := by rw [a15, p0]
      have q1 : M1 15 1 = 17 := by rw [a15, p1]
      rw [b106_25]
      simp (config := { maxSteps := 2000000 }) (disch := first | omega | (simp only [K_15 hK, K_16 hK, K_17 hK, f0, p0, p1, q0, q1, qb_in, qkW, qmW, qnW, true_and, and_true, or_self, true_or, or_true, and_self]; done) | (simp only [K_15 hK, K_16 hK, K_17 hK, f0, p0, p1, q0, q1, qb_in, qkW, qmW, qnW, true_and, and_true, or_self, true_or, or_true, and_self]; omega)) only [b106_0, b106_4, b106_12, b106_13, b106_33, b106_47, b106_61, b106_67, qcall_l, qcall_r, qretn_l, qJ_s, qJ_n, qV0, qEx, ↓qif0, ↓zchk_pos, ↓reduceIte, qput, qWW, qmW, qkW, qnW, K_15 hK, K_16 hK, K_17 hK, f0, p0, p1, if_pos (show i < n - 1 by omega), q32, hM1, q0, q1, a17]
      exact r
  obtain ⟨m', r, z⟩ := lp (n - 1 - w).toNat w (qu (zm S) 15 2 (n - 1)) vu (Int.le_refl _) (by omega) (qu_s _ _ _ _) (fun j hj => qu_i _ _ _ _ _ hj) (fun p => by rw [qu_o _ _ _ _ _ (by decide), if_neg (by omega)]) (fun p => by rw [qu_o _ _ _ _ _ (by decide), if_neg (by omega)]) (fun x x1 _ _ => qu_o _ _ _ _ _ x1)
  refine ⟨m', ?_, z⟩
  have r2 : ∀ x1, zF_106 e 25 [vr 15, x1, vi w] [] (qW S (qu (zm S) 15 2 (n - 1))) = some (.inl none, qW S m') := fun x1 => by
    rw [b106_25] at r ⊢
    exact r
  simp (config := { maxSteps := 2000000 }) (disch := first | omega | (simp only [K_15 hK, h2, qb_in, qkW, qmW, qnW, true_and, and_true, or_self, true_or, or_true, and_self]; done) | (simp only [K_15 hK, h2, qb_in, qkW, qmW, qnW, true_and, and_true, or_self, true_or, or_true, and_self]; omega)) only [zD_106, b106_0, b106_4, b106_12, b106_13, b106_33, b106_47, b106_61, b106_67, qcall_l, qcall_r, qretn_l, qJ_s, qJ_n, qV0, qEx, ↓qif0, ↓zchk_pos, ↓reduceIte, qput, qWW, qmW, qkW, qnW, K_15 hK, h2, if_neg (show ¬ w < 0 by omega), if_pos hn.2.1, q32, r2]
/-- how many copies a reader has, of a book, of any for -1 -/
def qhl (m : Int → Int → Int) (r b : Int) : Nat → Int
  | 0 => 0
  | k + 1 => qhl m r b k + if m 86 k = r ∧ (b = -1 ∨ m 82 k = b) then 1 else 0
theorem qhl_r (m : Int → Int → Int) (r b : Int) : ∀ k : Nat, 0 ≤ qhl m r b k ∧ qhl m r b k ≤ k := by
  intro k
  induction k with
  | zero => exact ⟨Int.le_refl _, Int.le_refl _⟩
  | succ k ih =>
    rw [qhl]
    split <;> omega
theorem r_held (d : Nat) (S : zS) (r b : Int) (h : 1 ≤ d) (hK : qK S) (hP : qP (zm S)) (hn : 0 ≤ zm S 37 65 ∧ zm S 37 65 ≤ 20) : zD d 295 [vr 37, vi r, vi b] S = some (.inl (some (vi (qhl (zm S) r b (zm S 37 65).toNat))), S) := by
  obtain ⟨e, rfl, -⟩ := qd h
  have lp : ∀ (g i : Nat), i + g = (zm S 37 65).toNat → zF_295 e 5 [vr 37, vi r, vi b, vi (qhl (zm S) r b i), vi i] [] S = some (.inl (some (vi (qhl (zm S) r b (zm S 37 65).toNat))), S) := by
    intro g
    induction g with
    | zero =>
      intro i hi
      obtain rfl : i = (zm S 37 65).toNat := by omega
      rw [b295_5]
      simp (config := { maxSteps := 2000000 }) (disch := first | omega | (simp only [K_37 hK, qb_in, qkW, qmW, qnW, true_and, and_true, or_self, true_or, or_true, and_self]; done) | (simp only [K_37 hK, qb_in, qkW, qmW, qnW, true_and, and_true, or_self, true_or, or_true, and_self]; omega)) only [b295_0, b295_14, b295_26, b295_31, b295_42, b295_46, b295_47, b295_55, qcall_l, qcall_r, qretn_l, qJ_s, qJ_n, qV0, qEx, ↓qif0, ↓zchk_pos, ↓reduceIte, qput, qWW, qmW, qkW, qnW, K_37 hK, if_neg (show ¬ (((zm S 37 65).toNat : Nat) : Int) < zm S 37 65 by omega)]
    | succ g ih =>
      intro i hi
      have hr := qhl_r (zm S) r b i
      have r1 := ih (i + 1) (by omega)
      rw [qhl] at r1
      rw [b295_5]
      by_cases c1 : zm S 86 i = r
      · by_cases c2 : b = -1
        · rw [if_pos ⟨c1, Or.inl c2⟩] at r1
          simp (config := { maxSteps := 2000000 }) (disch := first | omega | (simp only [K_37 hK, K_86 hK, K_82 hK, P_37_70 hP, P_37_66 hP, qb_in, qkW, qmW, qnW, true_and, and_true, or_self, true_or, or_true, and_self]; done) | (simp only [K_37 hK, K_86 hK, K_82 hK, P_37_70 hP, P_37_66 hP, qb_in, qkW, qmW, qnW, true_and, and_true, or_self, true_or, or_true, and_self]; omega)) only [b295_0, b295_14, b295_26, b295_31, b295_42, b295_46, b295_47, b295_55, qcall_l, qcall_r, qretn_l, qJ_s, qJ_n, qV0, qEx, ↓qif0, ↓zchk_pos, ↓reduceIte, qput, qWW, qmW, qkW, qnW, K_37 hK, K_86 hK, K_82 hK, P_37_70 hP, P_37_66 hP, if_pos (show (i : Int) < zm S 37 65 by omega), if_pos c1, if_pos c2, q32]
          exact r1
        · by_cases c3 : zm S 82 i = b
          · rw [if_pos ⟨c1, Or.inr c3⟩] at r1
            simp (config := { maxSteps := 2000000 }) (disch := first | omega | (simp only [K_37 hK, K_86 hK, K_82 hK, P_37_70 hP, P_37_66 hP, qb_in, qkW, qmW, qnW, true_and, and_true, or_self, true_or, or_true, and_self]; done) | (simp only [K_37 hK, K_86 hK, K_82 hK, P_37_70 hP, P_37_66 hP, qb_in, qkW, qmW, qnW, true_and, and_true, or_self, true_or, or_true, and_self]; omega)) only [b295_0, b295_14, b295_26, b295_31, b295_42, b295_46, b295_47, b295_55, qcall_l, qcall_r, qretn_l, qJ_s, qJ_n, qV0, qEx, ↓qif0, ↓zchk_pos, ↓reduceIte, qput, qWW, qmW, qkW, qnW, K_37 hK, K_86 hK, K_82 hK, P_37_70 hP, P_37_66 hP, if_pos (show (i : Int) < zm S 37 65 by omega), if_pos c1, if_neg c2, if_pos c3, q32]
            exact r1
          · rw [if_neg fun z => z.2.elim c2 c3] at r1
            simp (config := { maxSteps := 2000000 }) (disch := first | omega | (simp only [K_37 hK, K_86 hK, K_82 hK, P_37_70 hP, P_37_66 hP, qb_in, qkW, qmW, qnW, true_and, and_true, or_self, true_or, or_true, and_self]; done) | (simp only [K_37 hK, K_86 hK, K_82 hK, P_37_70 hP, P_37_66 hP, qb_in, qkW, qmW, qnW, true_and, and_true, or_self, true_or, or_true, and_self]; omega)) only [b295_0, b295_14, b295_26, b295_31, b295_42, b295_46, b295_47, b295_55, qcall_l, qcall_r, qretn_l, qJ_s, qJ_n, qV0, qEx, ↓qif0, ↓zchk_pos, ↓reduceIte, qput, qWW, qmW, qkW, qnW, K_37 hK, K_86 hK, K_82 hK, P_37_70 hP, P_37_66 hP, if_pos (show (i : Int) < zm S 37 65 by omega), if_pos c1, if_neg c2, if_neg c3, q32]
            exact r1
      · rw [if_neg fun z => c1 z.1] at r1
        simp (config := { maxSteps := 2000000 }) (disch := first | omega | (simp only [K_37 hK, K_86 hK, K_82 hK, P_37_70 hP, P_37_66 hP, qb_in, qkW, qmW, qnW, true_and, and_true, or_self, true_or, or_true, and_self]; done) | (simp only [K_37 hK, K_86 hK, K_82 hK, P_37_70 hP, P_37_66 hP, qb_in, qkW, qmW, qnW, true_and, and_true, or_self, true_or, or_true, and_self]; omega)) only [b295_0, b295_14, b295_26, b295_31, b295_42, b295_46, b295_47, b295_55, qcall_l, qcall_r, qretn_l, qJ_s, qJ_n, qV0, qEx, ↓qif0, ↓zchk_pos, ↓reduceIte, qput, qWW, qmW, qkW, qnW, K_37 hK, K_86 hK, K_82 hK, P_37_70 hP, P_37_66 hP, if_pos (show (i : Int) < zm S 37 65 by omega), if_neg c1, q32]
        exact r1
  have r1 := lp (zm S 37 65).toNat 0 (by omega)
  simp (config := { maxSteps := 2000000 }) (disch := first | omega | (simp only [qb_in, qkW, qmW, qnW, true_and, and_true, or_self, true_or, or_true, and_self]; done) | (simp only [qb_in, qkW, qmW, qnW, true_and, and_true, or_self, true_or, or_true, and_self]; omega)) only [zD_295, b295_0, b295_14, b295_26, b295_31, b295_42, b295_46, b295_47, b295_55, qcall_l, qcall_r, qretn_l, qJ_s, qJ_n, qV0, qEx, ↓qif0, ↓zchk_pos, ↓reduceIte, qput, qWW, qmW, qkW, qnW]
  exact r1
/-- the copies of both, so far as the post goes -/
def qYp (S : zS) : Prop := qNc S ∧ (∀ k, 0 ≤ k → k < zm S 37 65 → (zk S (zm S 13 k) = (24, 0) ∧ 103 ≤ zm S 13 k ∧ zm S 13 k < zn S) ∧ zm S (zm S 13 k) 0 = zm S 82 k ∧ (0 ≤ zm S 82 k ∧ zm S 82 k < zm S 37 16) ∧ zm S (zm S 13 k) 1 = zm S 8 (zm S 82 k) ∧ zm S (zm S 13 k) 5 = zm S 84 k ∧ zm S (zm S 13 k) 6 = zm S 86 k ∧ zm S (zm S 13 k) 7 = zm S 87 k ∧ zm S (zm S 13 k) 8 = zm S 88 k ∧ (zm S 86 k = -1 ∧ zm S 87 k = -1 ∨ (0 ≤ zm S 86 k ∧ zm S 86 k < zm S 37 76) ∧ (0 ≤ zm S 87 k ∧ zm S 87 k ≤ 1020))) ∧ ∀ i k, 0 ≤ i → i < k → k < zm S 37 65 → zm S 13 i ≠ zm S 13 k
/-- the day of both -/
def qYd (S : zS) : Prop := zm S 3 13 = zm S 37 3 ∧ 0 ≤ zm S 37 3 ∧ zm S 37 3 ≤ 1000
/-- how late a copy is -/
def qlb (m : Int → Int → Int) (k : Int) : Int := if m 87 k < m 37 3 then m 37 3 - m 87 k else 0
theorem qlb_r {S : zS} (hp : qYp S) (hd : qYd S) {k : Int} (h1 : 0 ≤ k) (h2 : k < zm S 37 65) : 0 ≤ qlb (zm S) k ∧ qlb (zm S) k ≤ 1001 := by
  obtain ⟨-, -, -, -, -, -, -, -, z⟩ := hp.2.1 k h1 h2
  have := hd.2
  unfold qlb
  split <;> omega
theorem r_lateBy (d : Nat) (S : zS) (k : Int) (h : 1 ≤ d) (hK : qK S) (hP : qP (zm S)) (hp : qYp S) (hd : qYd S) (h1 : 0 ≤ k) (h2 : k < zm S 37 65) : zD d 302 [vr 37, vi k] S = some (.inl (some (vi (qlb (zm S) k))), S) := by
  obtain ⟨e, rfl, -⟩ := qd h
  obtain ⟨-, -, -, -, -, -, -, -, z⟩ := hp.2.1 k h1 h2
  have hd2 := hd.2
  have hn := hp.1.2
  unfold qlb
  by_cases c : zm S 87 k < zm S 37 3
  · rw [if_pos c]
    simp (config := { maxSteps := 2000000 }) (disch := first | omega | (simp only [K_37 hK, K_87 hK, P_37_71 hP, qb_in, qkW, qmW, qnW, true_and, and_true, or_self, true_or, or_true, and_self]; done) | (simp only [K_37 hK, K_87 hK, P_37_71 hP, qb_in, qkW, qmW, qnW, true_and, and_true, or_self, true_or, or_true, and_self]; omega)) only [zD_302, b302_0, b302_13, b302_27, b302_28, qcall_l, qcall_r, qretn_l, qJ_s, qJ_n, qV0, qEx, ↓qif0, ↓zchk_pos, ↓reduceIte, qput, qWW, qmW, qkW, qnW, K_37 hK, K_87 hK, P_37_71 hP, if_pos c, q32]
  · rw [if_neg c]
    simp (config := { maxSteps := 2000000 }) (disch := first | omega | (simp only [K_37 hK, K_87 hK, P_37_71 hP, qb_in, qkW, qmW, qnW, true_and, and_true, or_self, true_or, or_true, and_self]; done) | (simp only [K_37 hK, K_87 hK, P_37_71 hP, qb_in, qkW, qmW, qnW, true_and, and_true, or_self, true_or, or_true, and_self]; omega)) only [zD_302, b302_0, b302_13, b302_27, b302_28, qcall_l, qcall_r, qretn_l, qJ_s, qJ_n, qV0, qEx, ↓qif0, ↓zchk_pos, ↓reduceIte, qput, qWW, qmW, qkW, qnW, K_37 hK, K_87 hK, P_37_71 hP, if_neg c, q32]
theorem s_daysLate (d : Nat) (S : zS) (k : Int) (h : 1 ≤ d) (hK : qK S) (hp : qYp S) (hd : qYd S) (h1 : 0 ≤ k) (h2 : k < zm S 37 65) (h3 : zm S 86 k ≠ -1) : zD d 44 [vr (zm S 13 k), vi (zm S 37 3)] S = some (.inl (some (vi (qlb (zm S) k))), S) := by
  obtain ⟨e, rfl, -⟩ := qd h
  obtain ⟨⟨kx, -⟩, -, -, -, -, -, x7, -, z⟩ := hp.2.1 k h1 h2
  have hd2 := hd.2
  have z2 := z.resolve_left fun w => h3 w.1
  unfold qlb
  by_cases c : zm S 87 k < zm S 37 3
  · rw [if_pos c]
    simp (config := { maxSteps := 2000000 }) (disch := first | omega | (simp only [kx, qb_in, qkW, qmW, qnW, true_and, and_true, or_self, true_or, or_true, and_self]; done) | (simp only [kx, qb_in, qkW, qmW, qnW, true_and, and_true, or_self, true_or, or_true, and_self]; omega)) only [zD_44, b44_0, b44_8, b44_12, b44_22, qcall_l, qcall_r, qretn_l, qJ_s, qJ_n, qV0, qEx, ↓qif0, ↓zchk_pos, ↓reduceIte, qput, qWW, qmW, qkW, qnW, kx, x7, if_neg (show ¬ zm S 87 k = -1 by omega), q32, if_pos (show 0 < zm S 37 3 - zm S 87 k by omega)]
  · rw [if_neg c]
    simp (config := { maxSteps := 2000000 }) (disch := first | omega | (simp only [kx, qb_in, qkW, qmW, qnW, true_and, and_true, or_self, true_or, or_true, and_self]; done) | (simp only [kx, qb_in, qkW, qmW, qnW, true_and, and_true, or_self, true_or, or_true, and_self]; omega)) only [zD_44, b44_0, b44_8, b44_12, b44_22, qcall_l, qcall_r, qretn_l, qJ_s, qJ_n, qV0, qEx, ↓qif0, ↓zchk_pos, ↓reduceIte, qput, qWW, qmW, qkW, qnW, kx, x7, if_neg (show ¬ zm S 87 k = -1 by omega), q32, if_neg (show ¬ 0 < zm S 37 3 - zm S 87 k by omega)]
theorem s_hasCopyOf (d : Nat) (S : zS) (r b : Int) (h : 1 ≤ d) (hK : qK S) (hP : qP (zm S)) (hp : qYp S) (hb : b ≠ -1) : zD d 168 [vr 3, vi r, vi b] S = some (.inl (some (vi (if qhl (zm S) r b (zm S 37 65).toNat = 0 then 0 else 1))), S) := by
  obtain ⟨e, rfl, -⟩ := qd h
  obtain ⟨⟨n1, n2⟩, w1, -⟩ := hp
  have pos : ∀ (g k : Nat), 0 < qhl (zm S) r b k → 0 < qhl (zm S) r b (k + g) := by
    intro g
    induction g with
    | zero => intro k hk; exact hk
    | succ g ih =>
      intro k hk
      have := ih k hk
      rw [show k + (g + 1) = k + g + 1 from rfl, qhl]
      split <;> omega
  have lp : ∀ (g i : Nat), i + g = (zm S 37 65).toNat → qhl (zm S) r b i = 0 → zF_168 e 2 [vr 3, vi r, vi b, vi i] [] S = some (.inl (some (vi (if qhl (zm S) r b (zm S 37 65).toNat = 0 then 0 else 1))), S) := by
    intro g
    induction g with
    | zero =>
      intro i hi hq
      obtain rfl : i = (zm S 37 65).toNat := by omega
      rw [if_pos hq, b168_2]
      simp (config := { maxSteps := 2000000 }) (disch := first | omega | (simp only [K_3 hK, qb_in, qkW, qmW, qnW, true_and, and_true, or_self, true_or, or_true, and_self]; done) | (simp only [K_3 hK, qb_in, qkW, qmW, qnW, true_and, and_true, or_self, true_or, or_true, and_self]; omega)) only [b168_0, b168_10, b168_23, b168_36, b168_38, b168_44, qcall_l, qcall_r, qretn_l, qJ_s, qJ_n, qV0, qEx, ↓qif0, ↓zchk_pos, ↓reduceIte, qput, qWW, qmW, qkW, qnW, K_3 hK, n1, if_neg (show ¬ (((zm S 37 65).toNat : Nat) : Int) < zm S 37 65 by omega), Int.reduceLE, true_and, and_self]
    | succ g ih =>
      intro i hi hq
      have hlt : (i : Int) < zm S 37 65 := by omega
      obtain ⟨⟨kx, -⟩, x0, -, -, -, x6, -, -, -⟩ := w1 i (by omega) hlt
      have hs : qhl (zm S) r b (i + 1) = if zm S 86 i = r ∧ (b = -1 ∨ zm S 82 i = b) then 1 else 0 := by rw [qhl, hq, Int.zero_add]
      rw [b168_2]
      by_cases c1 : zm S 86 i = r
      · by_cases c2 : zm S 82 i = b
        · rw [if_pos ⟨c1, Or.inr c2⟩] at hs
          have hz := pos g (i + 1) (by omega)
          rw [show i + 1 + g = (zm S 37 65).toNat by omega] at hz
          rw [if_neg (show ¬ qhl (zm S) r b (zm S 37 65).toNat = 0 by omega)]
          simp (config := { maxSteps := 2000000 }) (disch := first | omega | (simp only [K_3 hK, K_13 hK, P_3_8 hP, kx, qb_in, qkW, qmW, qnW, true_and, and_true, or_self, true_or, or_true, and_self]; done) | (simp only [K_3 hK, K_13 hK, P_3_8 hP, kx, qb_in, qkW, qmW, qnW, true_and, and_true, or_self, true_or, or_true, and_self]; omega)) only [b168_0, b168_10, b168_23, b168_36, b168_38, b168_44, qcall_l, qcall_r, qretn_l, qJ_s, qJ_n, qV0, qEx, ↓qif0, ↓zchk_pos, ↓reduceIte, qput, qWW, qmW, qkW, qnW, K_3 hK, K_13 hK, P_3_8 hP, kx, x0, x6, n1, if_pos hlt, if_pos c1, if_pos c2, Int.reduceLE, true_and, and_self]
        · rw [if_neg fun z => z.2.elim hb c2] at hs
          have r1 := ih (i + 1) (by omega) hs
          simp (config := { maxSteps := 2000000 }) (disch := first | omega | (simp only [K_3 hK, K_13 hK, P_3_8 hP, kx, qb_in, qkW, qmW, qnW, true_and, and_true, or_self, true_or, or_true, and_self]; done) | (simp only [K_3 hK, K_13 hK, P_3_8 hP, kx, qb_in, qkW, qmW, qnW, true_and, and_true, or_self, true_or, or_true, and_self]; omega)) only [b168_0, b168_10, b168_23, b168_36, b168_38, b168_44, qcall_l, qcall_r, qretn_l, qJ_s, qJ_n, qV0, qEx, ↓qif0, ↓zchk_pos, ↓reduceIte, qput, qWW, qmW, qkW, qnW, K_3 hK, K_13 hK, P_3_8 hP, kx, x0, x6, n1, if_pos hlt, if_pos c1, if_neg c2, q32]
          exact r1
      · rw [if_neg fun z => c1 z.1] at hs
        have r1 := ih (i + 1) (by omega) hs
        simp (config := { maxSteps := 2000000 }) (disch := first | omega | (simp only [K_3 hK, K_13 hK, P_3_8 hP, kx, qb_in, qkW, qmW, qnW, true_and, and_true, or_self, true_or, or_true, and_self]; done) | (simp only [K_3 hK, K_13 hK, P_3_8 hP, kx, qb_in, qkW, qmW, qnW, true_and, and_true, or_self, true_or, or_true, and_self]; omega)) only [b168_0, b168_10, b168_23, b168_36, b168_38, b168_44, qcall_l, qcall_r, qretn_l, qJ_s, qJ_n, qV0, qEx, ↓qif0, ↓zchk_pos, ↓reduceIte, qput, qWW, qmW, qkW, qnW, K_3 hK, K_13 hK, P_3_8 hP, kx, x0, x6, n1, if_pos hlt, if_neg c1, q32]
        exact r1
  have r1 := lp (zm S 37 65).toNat 0 (by omega) rfl
  simp (config := { maxSteps := 2000000 }) (disch := first | omega | (simp only [qb_in, qkW, qmW, qnW, true_and, and_true, or_self, true_or, or_true, and_self]; done) | (simp only [qb_in, qkW, qmW, qnW, true_and, and_true, or_self, true_or, or_true, and_self]; omega)) only [zD_168, b168_0, b168_10, b168_23, b168_36, b168_38, b168_44, qcall_l, qcall_r, qretn_l, qJ_s, qJ_n, qV0, qEx, ↓qif0, ↓zchk_pos, ↓reduceIte, qput, qWW, qmW, qkW, qnW]
  exact r1
