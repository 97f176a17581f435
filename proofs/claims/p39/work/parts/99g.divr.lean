/-! A divided word: what the reference does with the tape. -/
theorem r_wordsOfTr (d : Nat) (S : zS) (h : 6 ≤ d) (hK : qK S) (hP : qP (zm S)) (hT : qTr (zm S)) : zD d 204 [vr 37] S = some (.inl (some (vi (if qtf (zm S 38) (zm S 37 2) = -1 then qcw (zm S 38) (zm S 37 2).toNat else 0))), S) := by
  obtain ⟨e, rfl, h1⟩ := qd h
  have hT2 : 0 ≤ zm S 37 2 ∧ zm S 37 2 ≤ 60 := ⟨hT.1, hT.2.1⟩
  have fo := r_faultOf e S (by omega) hK hP hT
  rw [show qff0 (qms (zm S)) (zm S 37 2) = qtf (zm S 38) (zm S 37 2) from qff_tf _ _ hT.1] at fo
  have lp : ∀ (f i : Nat), (i : Int) + f = zm S 37 2 → zF_204 e 4 [vr 37, vi (qcw (zm S 38) i), vi i] [] S = some (.inl (some (vi (if qtf (zm S 38) (zm S 37 2) = -1 then qcw (zm S 38) (zm S 37 2).toNat else 0))), S) := by
    intro f
    induction f with
    | zero =>
      intro i h2
      rw [b204_4, show (zm S 37 2).toNat = i by omega]
      by_cases c : qtf (zm S 38) (zm S 37 2) = -1
      · rw [if_pos c]
        simp (config := { maxSteps := 2000000 }) (disch := first | omega | (simp only [K_37 hK, qb_in, qkW, qmW, qnW, true_and, and_true, or_self, true_or, or_true, and_self]; done) | (simp only [K_37 hK, qb_in, qkW, qmW, qnW, true_and, and_true, or_self, true_or, or_true, and_self]; omega)) only [b204_0, b204_12, b204_18, b204_21, b204_24, b204_28, b204_29, b204_37, b204_41, b204_45, b204_49, b204_50, qcall_l, qcall_r, qretn_l, qJ_s, qJ_n, qV0, qEx, ↓qif0, ↓zchk_pos, ↓reduceIte, qput, qWW, qmW, qkW, qnW, K_37 hK, if_neg (show ¬ (i : Int) < zm S 37 2 by omega), fo, if_pos c]
      · rw [if_neg c]
        simp (config := { maxSteps := 2000000 }) (disch := first | omega | (simp only [K_37 hK, qb_in, qkW, qmW, qnW, true_and, and_true, or_self, true_or, or_true, and_self]; done) | (simp only [K_37 hK, qb_in, qkW, qmW, qnW, true_and, and_true, or_self, true_or, or_true, and_self]; omega)) only [b204_0, b204_12, b204_18, b204_21, b204_24, b204_28, b204_29, b204_37, b204_41, b204_45, b204_49, b204_50, qcall_l, qcall_r, qretn_l, qJ_s, qJ_n, qV0, qEx, ↓qif0, ↓zchk_pos, ↓reduceIte, qput, qWW, qmW, qkW, qnW, K_37 hK, if_neg (show ¬ (i : Int) < zm S 37 2 by omega), fo, if_neg c]
    | succ f ih =>
      intro i h2
      have hr := qcw_r (zm S 38) i
      have sg := r_signAt e S i (by omega) (by omega) hK hP hT
      rw [show qms (zm S) i = zm S 38 i from qsg_lt (by omega)] at sg
      have ip := r_isPart e (zm S 38 i) S (by omega)
      have ih := ih (i + 1) (by omega)
      rw [qcw] at ih
      rw [b204_4]
      by_cases c : qpt (zm S 38 i)
      · rw [if_pos c] at ih
        simp (config := { maxSteps := 2000000 }) (disch := first | omega | (simp only [K_37 hK, qb_in, qkW, qmW, qnW, true_and, and_true, or_self, true_or, or_true, and_self]; done) | (simp only [K_37 hK, qb_in, qkW, qmW, qnW, true_and, and_true, or_self, true_or, or_true, and_self]; omega)) only [b204_0, b204_12, b204_18, b204_21, b204_24, b204_28, b204_29, b204_37, b204_41, b204_45, b204_49, b204_50, qcall_l, qcall_r, qretn_l, qJ_s, qJ_n, qV0, qEx, ↓qif0, ↓zchk_pos, ↓reduceIte, qput, qWW, qmW, qkW, qnW, K_37 hK, if_pos (show (i : Int) < zm S 37 2 by omega), sg, ip, if_pos c, q32]
        exact ih
      · rw [if_neg c, Int.add_zero] at ih
        simp (config := { maxSteps := 2000000 }) (disch := first | omega | (simp only [K_37 hK, qb_in, qkW, qmW, qnW, true_and, and_true, or_self, true_or, or_true, and_self]; done) | (simp only [K_37 hK, qb_in, qkW, qmW, qnW, true_and, and_true, or_self, true_or, or_true, and_self]; omega)) only [b204_0, b204_12, b204_18, b204_21, b204_24, b204_28, b204_29, b204_37, b204_41, b204_45, b204_49, b204_50, qcall_l, qcall_r, qretn_l, qJ_s, qJ_n, qV0, qEx, ↓qif0, ↓zchk_pos, ↓reduceIte, qput, qWW, qmW, qkW, qnW, K_37 hK, if_pos (show (i : Int) < zm S 37 2 by omega), sg, ip, if_neg c, Int.add_zero, q32]
        exact ih
  simp (config := { maxSteps := 2000000 }) (disch := first | omega | (simp only [qb_in, qkW, qmW, qnW, true_and, and_true, or_self, true_or, or_true, and_self]; done) | (simp only [qb_in, qkW, qmW, qnW, true_and, and_true, or_self, true_or, or_true, and_self]; omega)) only [zD_204, b204_0, b204_12, b204_18, b204_21, b204_24, b204_28, b204_29, b204_37, b204_41, b204_45, b204_49, b204_50, qcall_l, qcall_r, qretn_l, qJ_s, qJ_n, qV0, qEx, ↓qif0, ↓zchk_pos, ↓reduceIte, qput, qWW, qmW, qkW, qnW]
  exact lp (zm S 37 2).toNat 0 (by omega)
def qdM (S : zS) (t : Int → Int) (i : Nat) (m : Int → Int → Int) : Prop := (∀ x, x ≠ 37 → x ≠ 64 → m x = zm S x) ∧ (∀ j, j ≠ 36 → m 37 j = zm S 37 j) ∧ m 37 36 = qdvl t i ∧ ∀ j, 0 ≤ j → j < qdvl t i → m 64 j = qdvw t i j
theorem r_takesParts (d : Nat) (S : zS) (n : Int) (t : Int → Int) (h : 7 ≤ d) (hK : qK S) (hP : qP (zm S)) (hT : qTr (zm S)) (p2 : zm S 37 2 = n) (p38 : zm S 38 = t) :
    (qdok t n → ∃ m', zD d 212 [vr 37] S = some (.inl (some (vi (qdB t n))), qW S m') ∧ qdM S t n.toNat m') ∧
    (¬ qdok t n → ∃ (m' : Int → Int → Int) (i : Nat), zD d 212 [vr 37] S = some (.inl (some (vi 0)), qW S m') ∧ qdM S t i m' ∧ qdvl t i ≤ 10) := by
  obtain ⟨e, rfl, h1⟩ := qd h
  have wt := r_wordsOfTr e S (by omega) hK hP hT
  obtain ⟨t1, t2, t4⟩ := hT
  rw [p2] at t1 t2 t4
  rw [p2, p38] at wt
  rw [p38] at t4
  have k37 : ∀ (m : Int → Int → Int) (i : Nat), qdM S t i m → m 37 1 = 38 ∧ m 37 2 = n ∧ m 37 35 = 64 ∧ m 38 = t := fun m i hm => by
    obtain ⟨f0, f1, -, -⟩ := hm
    exact ⟨by rw [f1 1 (by decide)]; exact P_37_1 hP, by rw [f1 2 (by decide)]; exact p2, by rw [f1 35 (by decide)]; exact P_37_35 hP, by rw [f0 38 (by decide) (by decide)]; exact p38⟩
  have out0 : ∀ (m : Int → Int → Int) (i : Nat) (b : Int), qdM S t i m → zF_212 e 19 [vr 37, vi 0, vi b, vi i] [] (qW S m) = some (.inl (some (vi 0)), qW S m) := fun m i b hm => by
    obtain ⟨g1, g2, g3, g4⟩ := k37 m i hm
    rw [b212_19]
    by_cases c : (i : Int) < n
    · simp (config := { maxSteps := 2000000 }) (disch := first | omega | (simp only [K_37 hK, qb_in, qkW, qmW, qnW, true_and, and_true, or_self, true_or, or_true, and_self]; done) | (simp only [K_37 hK, qb_in, qkW, qmW, qnW, true_and, and_true, or_self, true_or, or_true, and_self]; omega)) only [b212_0, b212_4, b212_9, b212_27, b212_31, b212_40, b212_43, b212_52, b212_63, b212_67, b212_68, b212_73, b212_84, b212_96, b212_100, b212_116, b212_125, b212_131, b212_135, b212_146, b212_147, qcall_l, qcall_r, qretn_l, qJ_s, qJ_n, qV0, qEx, ↓qif0, ↓zchk_pos, ↓reduceIte, qput, qWW, qmW, qkW, qnW, K_37 hK, g2, if_pos c, Int.reduceEq]
    · simp (config := { maxSteps := 2000000 }) (disch := first | omega | (simp only [K_37 hK, qb_in, qkW, qmW, qnW, true_and, and_true, or_self, true_or, or_true, and_self]; done) | (simp only [K_37 hK, qb_in, qkW, qmW, qnW, true_and, and_true, or_self, true_or, or_true, and_self]; omega)) only [b212_0, b212_4, b212_9, b212_27, b212_31, b212_40, b212_43, b212_52, b212_63, b212_67, b212_68, b212_73, b212_84, b212_96, b212_100, b212_116, b212_125, b212_131, b212_135, b212_146, b212_147, qcall_l, qcall_r, qretn_l, qJ_s, qJ_n, qV0, qEx, ↓qif0, ↓zchk_pos, ↓reduceIte, qput, qWW, qmW, qkW, qnW, K_37 hK, g2, if_neg c, Int.reduceEq]
  have step : ∀ (i : Nat) (m : Int → Int → Int), (i : Int) < n → qdM S t i m → qdvc (t i) → qdvl t (i + 1) ≤ 10 → ∃ m', zF_212 e 19 [vr 37, vi 1, vi (qdvb t i), vi i] [] (qW S m) = zF_212 e 19 [vr 37, vi 1, vi (qdvb t (i + 1)), vi ((i + 1 : Nat) : Int)] [] (qW S m') ∧ qdM S t (i + 1) m' := fun i m hi hm hc hl => by
    obtain ⟨g1, g2, g3, g4⟩ := k37 m i hm
    obtain ⟨f0, f1, f2, f3⟩ := hm
    have hr := qdvl_r t i
    have sm := fun T => r_isSmall e (t i) T (by omega)
    have tr := t4 i (by omega) hi
    have ti : t i % 65536 = t i := by omega
    by_cases c : t i = 32
    · rw [qb_n (show ¬ qsm (t i) by omega)] at sm
      rw [qdvl, if_pos c] at hl
      refine ⟨m, ?_, f0, f1, by rw [qdvl, if_pos c, f2]; omega, fun j j1 j2 => ?_⟩
      · rw [b212_19, qdvb, if_pos c]
        simp (config := { maxSteps := 2000000 }) (disch := first | omega | (simp only [K_37 hK, K_38 hK, g1, qb_in, qkW, qmW, qnW, true_and, and_true, or_self, true_or, or_true, and_self]; done) | (simp only [K_37 hK, K_38 hK, g1, qb_in, qkW, qmW, qnW, true_and, and_true, or_self, true_or, or_true, and_self]; omega)) only [b212_0, b212_4, b212_9, b212_27, b212_31, b212_40, b212_43, b212_52, b212_63, b212_67, b212_68, b212_73, b212_84, b212_96, b212_100, b212_116, b212_125, b212_131, b212_135, b212_146, b212_147, qcall_l, qcall_r, qretn_l, qJ_s, qJ_n, qV0, qEx, ↓qif0, ↓zchk_pos, ↓reduceIte, qput, qWW, qmW, qkW, qnW, K_37 hK, K_38 hK, g1, g2, g4, f2, if_pos hi, sm, if_pos c, q32, Int.reduceEq]
        rfl
      · rw [qdvl, if_pos c] at j2
        rw [qdvw, if_pos c]
        exact f3 j j1 (by omega)
    · have hs : qsm (t i) := hc.resolve_right c
      rw [qb_p hs] at sm
      rw [qdvl, if_neg c] at hl
      have e1 : qu m 64 (qdvl t i) (t i) 37 = m 37 := qu_o _ _ _ _ _ (by decide)
      refine ⟨qu (qu m 64 (qdvl t i) (t i)) 37 36 (qdvl t i + 1), ?_, fun x x1 x2 => by rw [qu_o _ _ _ _ _ x1, qu_o _ _ _ _ _ x2, f0 x x1 x2], fun j j1 => by rw [qu_i _ _ _ _ _ j1, e1, f1 j j1], by rw [qu_s, qdvl, if_neg c], fun j j1 j2 => ?_⟩
      · rw [b212_19, qdvb, if_neg c]
        simp (config := { maxSteps := 2000000 }) (disch := first | omega | (simp only [K_37 hK, K_38 hK, K_64 hK, g1, g3, f2, e1, qb_in, qkW, qmW, qnW, true_and, and_true, or_self, true_or, or_true, and_self]; done) | (simp only [K_37 hK, K_38 hK, K_64 hK, g1, g3, f2, e1, qb_in, qkW, qmW, qnW, true_and, and_true, or_self, true_or, or_true, and_self]; omega)) only [b212_0, b212_4, b212_9, b212_27, b212_31, b212_40, b212_43, b212_52, b212_63, b212_67, b212_68, b212_73, b212_84, b212_96, b212_100, b212_116, b212_125, b212_131, b212_135, b212_146, b212_147, qcall_l, qcall_r, qretn_l, qJ_s, qJ_n, qV0, qEx, ↓qif0, ↓zchk_pos, ↓reduceIte, qput, qWW, qmW, qkW, qnW, K_37 hK, K_38 hK, K_64 hK, g1, g2, g3, g4, f2, e1, if_pos hi, sm, if_neg c, if_pos (show qdvl t i < 10 by omega), ti, q32, Int.reduceEq]
        rfl
      · rw [qdvl, if_neg c] at j2
        rw [qdvw, if_neg c, qu_o _ _ _ _ _ (by decide)]
        show _ = if j = qdvl t i then t i else qdvw t i j
        by_cases z : j = qdvl t i
        · rw [z, qu_s, if_pos rfl]
        · rw [qu_i _ _ _ _ _ z, if_neg z]
          exact f3 j j1 (by omega)
  have bad : ∀ (i : Nat) (m : Int → Int → Int), (i : Int) < n → qdM S t i m → qdvl t i ≤ 10 → ¬ (qdvc (t i) ∧ qdvl t (i + 1) ≤ 10) → zF_212 e 19 [vr 37, vi 1, vi (qdvb t i), vi i] [] (qW S m) = some (.inl (some (vi 0)), qW S m) := fun i m hi hm hl hc => by
    have o := out0 m (i + 1) (qdvb t i) 
    obtain ⟨g1, g2, g3, g4⟩ := k37 m i hm
    obtain ⟨f0, f1, f2, f3⟩ := hm
    have hr := qdvl_r t i
    have sm := fun T => r_isSmall e (t i) T (by omega)
    have c : ¬ t i = 32 := fun z => hc ⟨Or.inr z, by rw [qdvl, if_pos z]; omega⟩
    have o : zF_212 e 19 [vr 37, vi 0, vi (qdvb t i), vi ((i : Int) + 1)] [] (qW S m) = some (.inl (some (vi 0)), qW S m) := by
      rw [b212_19]
      by_cases c : (i : Int) + 1 < n
      · simp (config := { maxSteps := 2000000 }) (disch := first | omega | (simp only [K_37 hK, qb_in, qkW, qmW, qnW, true_and, and_true, or_self, true_or, or_true, and_self]; done) | (simp only [K_37 hK, qb_in, qkW, qmW, qnW, true_and, and_true, or_self, true_or, or_true, and_self]; omega)) only [b212_0, b212_4, b212_9, b212_27, b212_31, b212_40, b212_43, b212_52, b212_63, b212_67, b212_68, b212_73, b212_84, b212_96, b212_100, b212_116, b212_125, b212_131, b212_135, b212_146, b212_147, qcall_l, qcall_r, qretn_l, qJ_s, qJ_n, qV0, qEx, ↓qif0, ↓zchk_pos, ↓reduceIte, qput, qWW, qmW, qkW, qnW, K_37 hK, g2, if_pos c, Int.reduceEq]
      · simp (config := { maxSteps := 2000000 }) (disch := first | omega | (simp only [K_37 hK, qb_in, qkW, qmW, qnW, true_and, and_true, or_self, true_or, or_true, and_self]; done) | (simp only [K_37 hK, qb_in, qkW, qmW, qnW, true_and, and_true, or_self, true_or, or_true, and_self]; omega)) only [b212_0, b212_4, b212_9, b212_27, b212_31, b212_40, b212_43, b212_52, b212_63, b212_67, b212_68, b212_73, b212_84, b212_96, b212_100, b212_116, b212_125, b212_131, b212_135, b212_146, b212_147, qcall_l, qcall_r, qretn_l, qJ_s, qJ_n, qV0, qEx, ↓qif0, ↓zchk_pos, ↓reduceIte, qput, qWW, qmW, qkW, qnW, K_37 hK, g2, if_neg c, Int.reduceEq]
    rw [b212_19]
    by_cases hs : qsm (t i)
    · have hl2 : ¬ qdvl t i < 10 := fun z => hc ⟨Or.inl hs, by rw [qdvl, if_neg c]; omega⟩
      rw [qb_p hs] at sm
      simp (config := { maxSteps := 2000000 }) (disch := first | omega | (simp only [K_37 hK, K_38 hK, g1, qb_in, qkW, qmW, qnW, true_and, and_true, or_self, true_or, or_true, and_self]; done) | (simp only [K_37 hK, K_38 hK, g1, qb_in, qkW, qmW, qnW, true_and, and_true, or_self, true_or, or_true, and_self]; omega)) only [b212_0, b212_4, b212_9, b212_27, b212_31, b212_40, b212_43, b212_52, b212_63, b212_67, b212_68, b212_73, b212_84, b212_96, b212_100, b212_116, b212_125, b212_131, b212_135, b212_146, b212_147, qcall_l, qcall_r, qretn_l, qJ_s, qJ_n, qV0, qEx, ↓qif0, ↓zchk_pos, ↓reduceIte, qput, qWW, qmW, qkW, qnW, K_37 hK, K_38 hK, g1, g2, g4, f2, if_pos hi, sm, if_neg hl2, if_neg c, q32, Int.reduceEq, o]
    · rw [qb_n hs] at sm
      simp (config := { maxSteps := 2000000 }) (disch := first | omega | (simp only [K_37 hK, K_38 hK, g1, qb_in, qkW, qmW, qnW, true_and, and_true, or_self, true_or, or_true, and_self]; done) | (simp only [K_37 hK, K_38 hK, g1, qb_in, qkW, qmW, qnW, true_and, and_true, or_self, true_or, or_true, and_self]; omega)) only [b212_0, b212_4, b212_9, b212_27, b212_31, b212_40, b212_43, b212_52, b212_63, b212_67, b212_68, b212_73, b212_84, b212_96, b212_100, b212_116, b212_125, b212_131, b212_135, b212_146, b212_147, qcall_l, qcall_r, qretn_l, qJ_s, qJ_n, qV0, qEx, ↓qif0, ↓zchk_pos, ↓reduceIte, qput, qWW, qmW, qkW, qnW, K_37 hK, K_38 hK, g1, g2, g4, f2, if_pos hi, sm, if_neg c, q32, Int.reduceEq, o]
  have lp : ∀ (k i : Nat) (m : Int → Int → Int), (i : Int) + k = n → qdM S t i m → qdvl t i ≤ 10 →
      ((∀ j, (i : Int) ≤ j → j < n → qdvc (t j)) ∧ qdvl t n.toNat ≤ 10 → ∃ m', zF_212 e 19 [vr 37, vi 1, vi (qdvb t i), vi i] [] (qW S m) = some (.inl (some (vi (qdB t n))), qW S m') ∧ qdM S t n.toNat m') ∧
      (¬ ((∀ j, (i : Int) ≤ j → j < n → qdvc (t j)) ∧ qdvl t n.toNat ≤ 10) → ∃ (m' : Int → Int → Int) (i' : Nat), zF_212 e 19 [vr 37, vi 1, vi (qdvb t i), vi i] [] (qW S m) = some (.inl (some (vi 0)), qW S m') ∧ qdM S t i' m' ∧ qdvl t i' ≤ 10) := by
    intro k
    induction k with
    | zero =>
      intro i m hi hm hl
      have hi : (i : Int) = n := by omega
      have hi2 : n.toNat = i := by omega
      obtain ⟨g1, g2, g3, g4⟩ := k37 m i hm
      have f2 := hm.2.2.1
      rw [hi2]
      refine ⟨fun _ => ⟨m, ?_, hm⟩, fun z => absurd ⟨fun j j1 j2 => by omega, hl⟩ z⟩
      unfold qdB
      rw [hi2, b212_19]
      simp (config := { maxSteps := 2000000 }) (disch := first | omega | (simp only [K_37 hK, qb_in, qkW, qmW, qnW, true_and, and_true, or_self, true_or, or_true, and_self]; done) | (simp only [K_37 hK, qb_in, qkW, qmW, qnW, true_and, and_true, or_self, true_or, or_true, and_self]; omega)) only [b212_0, b212_4, b212_9, b212_27, b212_31, b212_40, b212_43, b212_52, b212_63, b212_67, b212_68, b212_73, b212_84, b212_96, b212_100, b212_116, b212_125, b212_131, b212_135, b212_146, b212_147, qcall_l, qcall_r, qretn_l, qJ_s, qJ_n, qV0, qEx, ↓qif0, ↓zchk_pos, ↓reduceIte, qput, qWW, qmW, qkW, qnW, K_37 hK, g2, f2, hi, Int.lt_irrefl, Int.reduceEq]
    | succ k ih =>
      intro i m hi hm hl
      by_cases c : qdvc (t i) ∧ qdvl t (i + 1) ≤ 10
      · obtain ⟨m1, r1, u1⟩ := step i m (by omega) hm c.1 c.2
        obtain ⟨a, b⟩ := ih (i + 1) m1 (by omega) u1 c.2
        rw [r1]
        refine ⟨fun z => a ⟨fun j j1 j2 => z.1 j (by omega) j2, z.2⟩, fun z => b fun w => z ⟨fun j j1 j2 => ?_, w.2⟩⟩
        by_cases q : j = i
        · rw [q]; exact c.1
        · exact w.1 j (by omega) j2
      · have hu := (qdvl_u t (i + 1) (n.toNat - (i + 1))).1
        rw [show i + 1 + (n.toNat - (i + 1)) = n.toNat by omega] at hu
        refine ⟨fun z => absurd ⟨z.1 i (Int.le_refl _) (by omega), by omega⟩ c, fun _ => ⟨m, i, bad i m (by omega) hm hl c, hm, hl⟩⟩
  have hm0 : qdM S t 0 (qu (zm S) 37 36 0) := ⟨fun x x1 x2 => qu_o _ _ _ _ _ x1, fun j j1 => qu_i _ _ _ _ _ j1, qu_s _ _ _ _, fun j j1 j2 => by
    have : j < 0 := j2
    omega⟩
  have hw := qcw_r t n.toNat
  obtain ⟨l1, l2⟩ := lp n.toNat 0 (qu (zm S) 37 36 0) (by omega) hm0 (show (0 : Int) ≤ 10 by decide)
  by_cases c : qtf t n = -1 ∧ 2 ≤ qcw t n.toNat ∧ qcw t n.toNat ≤ 4
  · have ri := r_in e (qcw t n.toNat) 2 4 S (by omega)
    rw [qb_p c.2] at ri
    rw [if_pos c.1] at wt
    have top : zD (e + 1) 212 [vr 37] S = zF_212 e 19 [vr 37, vi 1, vi 0, vi 0] [] (qW S (qu (zm S) 37 36 0)) := by
      simp (config := { maxSteps := 2000000 }) (disch := first | omega | (simp only [K_37 hK, qb_in, qkW, qmW, qnW, true_and, and_true, or_self, true_or, or_true, and_self]; done) | (simp only [K_37 hK, qb_in, qkW, qmW, qnW, true_and, and_true, or_self, true_or, or_true, and_self]; omega)) only [zD_212, b212_0, b212_4, b212_9, b212_27, b212_31, b212_40, b212_43, b212_52, b212_63, b212_67, b212_68, b212_73, b212_84, b212_96, b212_100, b212_116, b212_125, b212_131, b212_135, b212_146, b212_147, qcall_l, qcall_r, qretn_l, qJ_s, qJ_n, qV0, qEx, ↓qif0, ↓zchk_pos, ↓reduceIte, qput, qWW, qmW, qkW, qnW, K_37 hK, wt, ri]
    rw [top]
    refine ⟨fun z => l1 ⟨z.2.1, z.2.2⟩, fun z => l2 fun w => z ⟨c, w.1, w.2⟩⟩
  · have ri := r_in e (if qtf t n = -1 then qcw t n.toNat else 0) 2 4 S (by omega)
    rw [qb_n (show ¬ (2 ≤ (if qtf t n = -1 then qcw t n.toNat else 0) ∧ (if qtf t n = -1 then qcw t n.toNat else 0) ≤ 4) from fun z => by
      by_cases q : qtf t n = -1
      · rw [if_pos q] at z
        exact c ⟨q, z⟩
      · rw [if_neg q] at z
        omega)] at ri
    have top : zD (e + 1) 212 [vr 37] S = zF_212 e 19 [vr 37, vi 0, vi 0, vi 0] [] (qW S (qu (zm S) 37 36 0)) := by
      simp (config := { maxSteps := 2000000 }) (disch := first | omega | (simp only [K_37 hK, qb_in, qkW, qmW, qnW, true_and, and_true, or_self, true_or, or_true, and_self]; done) | (simp only [K_37 hK, qb_in, qkW, qmW, qnW, true_and, and_true, or_self, true_or, or_true, and_self]; omega)) only [zD_212, b212_0, b212_4, b212_9, b212_27, b212_31, b212_40, b212_43, b212_52, b212_63, b212_67, b212_68, b212_73, b212_84, b212_96, b212_100, b212_116, b212_125, b212_131, b212_135, b212_146, b212_147, qcall_l, qcall_r, qretn_l, qJ_s, qJ_n, qV0, qEx, ↓qif0, ↓zchk_pos, ↓reduceIte, qput, qWW, qmW, qkW, qnW, K_37 hK, wt, ri]
    rw [top]
    exact ⟨fun z => absurd z.1 c, fun _ => ⟨_, 0, out0 _ 0 0 hm0, hm0, show (0 : Int) ≤ 10 by decide⟩⟩
