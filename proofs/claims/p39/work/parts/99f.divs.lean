/-! A divided word: what the class does with the tape. -/
theorem s_isDivision (d : Nat) (S : zS) (n : Int) (t : Int → Int) (h : 4 ≤ d) (hK : qK S) (hP : qP (zm S)) (hT : qRT S) (p2 : zm S 37 2 = n) (p38 : zm S 38 = t) :
    (qdok t n → zD d 99 [vr 4] S = some (.inl (some (vi 1)), S)) ∧ (¬ qdok t n → zD d 99 [vr 4] S = some (.inl (some (vi 0)), S)) := by
  obtain ⟨e, rfl, h1⟩ := qd h
  have fa := s_faultAsText' e S (by omega) hK hP hT
  obtain ⟨t1, t2, t3, t4⟩ := hT
  rw [p2] at t1 t2
  rw [p38, p2] at t3
  rw [p2, p38] at fa
  have cw := s_countWords e S n (by omega) hK (P_4_0 hP) t1 t2
  rw [qcw_e t3 t2.1] at cw
  have lp : ∀ (g : Nat) (i : Int), 0 ≤ i → i + g = n →
      ((∀ j, i ≤ j → j < n → qdvc (t j)) → zF_99 e 2 [vr 4, vi i] [] S = zF_99 e 41 [vr 4, vi n] [] S) ∧ (¬ (∀ j, i ≤ j → j < n → qdvc (t j)) → zF_99 e 2 [vr 4, vi i] [] S = some (.inl (some (vi 0)), S)) := by
    intro g
    induction g with
    | zero =>
      intro i hi hin
      have hi2 : i = n := by omega
      refine ⟨fun _ => ?_, fun z => absurd (fun j j1 j2 => by omega) z⟩
      rw [b99_2]
      simp (config := { maxSteps := 2000000 }) (disch := first | omega | (simp only [K_4 hK, P_3_0 hP, qb_in, qkW, qmW, qnW, true_and, and_true, or_self, true_or, or_true, and_self]; done) | (simp only [K_4 hK, P_3_0 hP, qb_in, qkW, qmW, qnW, true_and, and_true, or_self, true_or, or_true, and_self]; omega)) only [b99_0, b99_10, b99_19, b99_22, b99_33, b99_35, b99_45, b99_50, b99_54, b99_59, b99_64, b99_77, b99_81, b99_82, qcall_l, qcall_r, qretn_l, qJ_s, qJ_n, qV0, qEx, ↓qif0, ↓zchk_pos, ↓reduceIte, qput, qWW, qmW, qkW, qnW, K_4 hK, P_3_0 hP, t1, hi2, Int.lt_irrefl]
    | succ g ih =>
      intro i hi hin
      have sm := s_isSmallLetter e (t i) S (by omega)
      obtain ⟨i1, i2⟩ := ih (i + 1) (by omega) (by omega)
      by_cases q : qdvc (t i)
      · have st : zF_99 e 2 [vr 4, vi i] [] S = zF_99 e 2 [vr 4, vi (i + 1)] [] S := by
          rw [b99_2]
          rcases q with q | q
          · rw [qb_p q] at sm
            simp (config := { maxSteps := 2000000 }) (disch := first | omega | (simp only [K_4 hK, P_3_0 hP, P_4_0 hP, K_5 hK, qb_in, qkW, qmW, qnW, true_and, and_true, or_self, true_or, or_true, and_self]; done) | (simp only [K_4 hK, P_3_0 hP, P_4_0 hP, K_5 hK, qb_in, qkW, qmW, qnW, true_and, and_true, or_self, true_or, or_true, and_self]; omega)) only [b99_0, b99_10, b99_19, b99_22, b99_33, b99_35, b99_45, b99_50, b99_54, b99_59, b99_64, b99_77, b99_81, b99_82, qcall_l, qcall_r, qretn_l, qJ_s, qJ_n, qV0, qEx, ↓qif0, ↓zchk_pos, ↓reduceIte, qput, qWW, qmW, qkW, qnW, K_4 hK, P_3_0 hP, t1, t3, P_4_0 hP, K_5 hK, if_pos (show i < n by omega), sm, q32, Int.reduceEq]
          · rw [qb_n (show ¬ qsm (t i) by omega)] at sm
            simp (config := { maxSteps := 2000000 }) (disch := first | omega | (simp only [K_4 hK, P_3_0 hP, P_4_0 hP, K_5 hK, qb_in, qkW, qmW, qnW, true_and, and_true, or_self, true_or, or_true, and_self]; done) | (simp only [K_4 hK, P_3_0 hP, P_4_0 hP, K_5 hK, qb_in, qkW, qmW, qnW, true_and, and_true, or_self, true_or, or_true, and_self]; omega)) only [b99_0, b99_10, b99_19, b99_22, b99_33, b99_35, b99_45, b99_50, b99_54, b99_59, b99_64, b99_77, b99_81, b99_82, qcall_l, qcall_r, qretn_l, qJ_s, qJ_n, qV0, qEx, ↓qif0, ↓zchk_pos, ↓reduceIte, qput, qWW, qmW, qkW, qnW, K_4 hK, P_3_0 hP, t1, t3, P_4_0 hP, K_5 hK, if_pos (show i < n by omega), sm, if_pos q, q32, Int.reduceEq]
        rw [st]
        refine ⟨fun z => i1 fun j j1 j2 => z j (by omega) j2, fun z => i2 fun w => z fun j j1 j2 => ?_⟩
        by_cases w2 : j = i
        · rw [w2]; exact q
        · exact w j (by omega) j2
      · refine ⟨fun z => absurd (z i (Int.le_refl i) (by omega)) q, fun _ => ?_⟩
        rw [qb_n (fun z => q (Or.inl z))] at sm
        have q2 : ¬ t i = 32 := fun z => q (Or.inr z)
        rw [b99_2]
        simp (config := { maxSteps := 2000000 }) (disch := first | omega | (simp only [K_4 hK, P_3_0 hP, P_4_0 hP, K_5 hK, qb_in, qkW, qmW, qnW, true_and, and_true, or_self, true_or, or_true, and_self]; done) | (simp only [K_4 hK, P_3_0 hP, P_4_0 hP, K_5 hK, qb_in, qkW, qmW, qnW, true_and, and_true, or_self, true_or, or_true, and_self]; omega)) only [b99_0, b99_10, b99_19, b99_22, b99_33, b99_35, b99_45, b99_50, b99_54, b99_59, b99_64, b99_77, b99_81, b99_82, qcall_l, qcall_r, qretn_l, qJ_s, qJ_n, qV0, qEx, ↓qif0, ↓zchk_pos, ↓reduceIte, qput, qWW, qmW, qkW, qnW, K_4 hK, P_3_0 hP, t1, t3, P_4_0 hP, K_5 hK, if_pos (show i < n by omega), sm, if_neg q2, Int.reduceEq, Int.reduceLE, true_and, and_self]
  obtain ⟨l1, l2⟩ := lp n.toNat 0 (Int.le_refl 0) (by omega)
  have top : zD (e + 1) 99 [vr 4] S = zF_99 e 2 [vr 4, vi 0] [] S := by
    simp (config := { maxSteps := 2000000 }) (disch := first | omega | (simp only [qb_in, qkW, qmW, qnW, true_and, and_true, or_self, true_or, or_true, and_self]; done) | (simp only [qb_in, qkW, qmW, qnW, true_and, and_true, or_self, true_or, or_true, and_self]; omega)) only [zD_99, b99_0, b99_10, b99_19, b99_22, b99_33, b99_35, b99_45, b99_50, b99_54, b99_59, b99_64, b99_77, b99_81, b99_82, qcall_l, qcall_r, qretn_l, qJ_s, qJ_n, qV0, qEx, ↓qif0, ↓zchk_pos, ↓reduceIte, qput, qWW, qmW, qkW, qnW]
  rw [top]
  have hw := qcw_r t n.toNat
  by_cases q : qdvt t n
  · rw [l1 q, b99_41]
    have hd := qdvl_n t n q n.toNat (by omega)
    have hd : qdvl t n.toNat = n - (qcw t n.toNat - 1) := by omega
    by_cases c1 : qtf t n = -1
    · by_cases c2 : qcw t n.toNat < 2
      · refine ⟨fun z => absurd z.1 (by omega), fun _ => ?_⟩
        simp (config := { maxSteps := 2000000 }) (disch := first | omega | (simp only [K_4 hK, qb_in, qkW, qmW, qnW, true_and, and_true, or_self, true_or, or_true, and_self]; done) | (simp only [K_4 hK, qb_in, qkW, qmW, qnW, true_and, and_true, or_self, true_or, or_true, and_self]; omega)) only [b99_0, b99_10, b99_19, b99_22, b99_33, b99_35, b99_41, b99_45, b99_50, b99_54, b99_59, b99_64, b99_77, b99_81, b99_82, qcall_l, qcall_r, qretn_l, qJ_s, qJ_n, qV0, qEx, ↓qif0, ↓zchk_pos, ↓reduceIte, qput, qWW, qmW, qkW, qnW, K_4 hK, cw, fa, if_pos c1, if_pos c2, Int.reduceLE, true_and, and_self]
      · by_cases c3 : 4 < qcw t n.toNat
        · refine ⟨fun z => absurd z.1 (by omega), fun _ => ?_⟩
          simp (config := { maxSteps := 2000000 }) (disch := first | omega | (simp only [K_4 hK, qb_in, qkW, qmW, qnW, true_and, and_true, or_self, true_or, or_true, and_self]; done) | (simp only [K_4 hK, qb_in, qkW, qmW, qnW, true_and, and_true, or_self, true_or, or_true, and_self]; omega)) only [b99_0, b99_10, b99_19, b99_22, b99_33, b99_35, b99_41, b99_45, b99_50, b99_54, b99_59, b99_64, b99_77, b99_81, b99_82, qcall_l, qcall_r, qretn_l, qJ_s, qJ_n, qV0, qEx, ↓qif0, ↓zchk_pos, ↓reduceIte, qput, qWW, qmW, qkW, qnW, K_4 hK, cw, fa, if_pos c1, if_neg c2, if_pos c3, Int.reduceLE, true_and, and_self]
        · by_cases c4 : 10 < n - (qcw t n.toNat - 1)
          · refine ⟨fun z => absurd z.2.2 (by omega), fun _ => ?_⟩
            simp (config := { maxSteps := 2000000 }) (disch := first | omega | (simp only [K_4 hK, qb_in, qkW, qmW, qnW, true_and, and_true, or_self, true_or, or_true, and_self]; done) | (simp only [K_4 hK, qb_in, qkW, qmW, qnW, true_and, and_true, or_self, true_or, or_true, and_self]; omega)) only [b99_0, b99_10, b99_19, b99_22, b99_33, b99_35, b99_41, b99_45, b99_50, b99_54, b99_59, b99_64, b99_77, b99_81, b99_82, qcall_l, qcall_r, qretn_l, qJ_s, qJ_n, qV0, qEx, ↓qif0, ↓zchk_pos, ↓reduceIte, qput, qWW, qmW, qkW, qnW, K_4 hK, cw, fa, if_pos c1, if_neg c2, if_neg c3, t1, q32, if_pos c4, Int.reduceLE, true_and, and_self]
          · refine ⟨fun _ => ?_, fun z => absurd ⟨⟨c1, by omega, by omega⟩, q, by omega⟩ z⟩
            simp (config := { maxSteps := 2000000 }) (disch := first | omega | (simp only [K_4 hK, qb_in, qkW, qmW, qnW, true_and, and_true, or_self, true_or, or_true, and_self]; done) | (simp only [K_4 hK, qb_in, qkW, qmW, qnW, true_and, and_true, or_self, true_or, or_true, and_self]; omega)) only [b99_0, b99_10, b99_19, b99_22, b99_33, b99_35, b99_41, b99_45, b99_50, b99_54, b99_59, b99_64, b99_77, b99_81, b99_82, qcall_l, qcall_r, qretn_l, qJ_s, qJ_n, qV0, qEx, ↓qif0, ↓zchk_pos, ↓reduceIte, qput, qWW, qmW, qkW, qnW, K_4 hK, cw, fa, if_pos c1, if_neg c2, if_neg c3, t1, q32, if_neg c4, Int.reduceLE, true_and, and_self]
    · refine ⟨fun z => absurd z.1.1 c1, fun _ => ?_⟩
      simp (config := { maxSteps := 2000000 }) (disch := first | omega | (simp only [K_4 hK, qb_in, qkW, qmW, qnW, true_and, and_true, or_self, true_or, or_true, and_self]; done) | (simp only [K_4 hK, qb_in, qkW, qmW, qnW, true_and, and_true, or_self, true_or, or_true, and_self]; omega)) only [b99_0, b99_10, b99_19, b99_22, b99_33, b99_35, b99_41, b99_45, b99_50, b99_54, b99_59, b99_64, b99_77, b99_81, b99_82, qcall_l, qcall_r, qretn_l, qJ_s, qJ_n, qV0, qEx, ↓qif0, ↓zchk_pos, ↓reduceIte, qput, qWW, qmW, qkW, qnW, K_4 hK, cw, fa, if_neg c1, Int.reduceLE, true_and, and_self]
  · exact ⟨fun z => absurd z.2.1 q, fun _ => l2 q⟩
theorem s_divInit (d : Nat) (S : zS) (x N : Int) (h : 1 ≤ d) (hx : zk S x = (25, 0)) (h0 : 0 < x ∧ x < N) (hN : (zn S : Int) = N) :
    zD d 48 [vr x] S = some (.inl none, qW (zalloc (zalloc S 0 10 10) 0 4 4) (qu (qz (qu (qz (zm S) N) x 0 N) (N + 1)) x 2 (N + 1))) := by
  obtain ⟨e, rfl, -⟩ := qd h
  subst hN
  simp (config := { maxSteps := 2000000 }) (disch := first | omega | (simp only [qal_n, hx, qal_o, qb_in, qkW, qmW, qnW, true_and, and_true, or_self, true_or, or_true, and_self]; done) | (simp only [qal_n, hx, qal_o, qb_in, qkW, qmW, qnW, true_and, and_true, or_self, true_or, or_true, and_self]; omega)) only [zD_48, b48_0, b48_12, b48_19, qcall_l, qcall_r, qretn_l, qJ_s, qJ_n, qV0, qEx, ↓qif0, ↓zchk_pos, ↓reduceIte, qput, qWW, qmW, qkW, qnW, qalW, qal_n, qal_o, qal_m, hx, Int.reduceToNat]
theorem s_divAppend (d : Nat) (S : zS) (a b k v : Int) (h : 1 ≤ d) (ha : zk S a = (25, 0)) (hb : zk S b = (0, 10)) (hab : a ≠ b) (p0 : zm S a 0 = b) (p1 : zm S a 1 = k) (hk : 0 ≤ k ∧ k < 10) : zD d 49 [vr a, vi v] S = some (.inl none, qW S (qu (qu (zm S) b k v) a 1 (k + 1))) := by
  obtain ⟨e, rfl, -⟩ := qd h
  have e1 : qu (zm S) b k v a = zm S a := qu_o _ _ _ _ _ hab
  simp (config := { maxSteps := 2000000 }) (disch := first | omega | (simp only [ha, hb, p0, p1, e1, qb_in, qkW, qmW, qnW, true_and, and_true, or_self, true_or, or_true, and_self]; done) | (simp only [ha, hb, p0, p1, e1, qb_in, qkW, qmW, qnW, true_and, and_true, or_self, true_or, or_true, and_self]; omega)) only [zD_49, b49_0, b49_12, b49_28, b49_32, qcall_l, qcall_r, qretn_l, qJ_s, qJ_n, qV0, qEx, ↓qif0, ↓zchk_pos, ↓reduceIte, qput, qWW, qmW, qkW, qnW, ha, hb, p0, p1, e1, if_pos hk.2, q32]
theorem s_divEnd (d : Nat) (S : zS) (a c k v : Int) (h : 1 ≤ d) (ha : zk S a = (25, 0)) (hc : zk S c = (0, 4)) (hac : a ≠ c) (p2 : zm S a 2 = c) (p1 : zm S a 1 = v) (p3 : zm S a 3 = k) (hk : 0 ≤ k ∧ k < 4) : zD d 50 [vr a] S = some (.inl none, qW S (qu (qu (zm S) c k v) a 3 (k + 1))) := by
  obtain ⟨e, rfl, -⟩ := qd h
  have e1 : qu (zm S) c k v a = zm S a := qu_o _ _ _ _ _ hac
  simp (config := { maxSteps := 2000000 }) (disch := first | omega | (simp only [ha, hc, p2, p1, p3, e1, qb_in, qkW, qmW, qnW, true_and, and_true, or_self, true_or, or_true, and_self]; done) | (simp only [ha, hc, p2, p1, p3, e1, qb_in, qkW, qmW, qnW, true_and, and_true, or_self, true_or, or_true, and_self]; omega)) only [zD_50, b50_0, b50_12, b50_30, b50_35, qcall_l, qcall_r, qretn_l, qJ_s, qJ_n, qV0, qEx, ↓qif0, ↓zchk_pos, ↓reduceIte, qput, qWW, qmW, qkW, qnW, ha, hc, p2, p1, p3, e1, if_pos hk.2, q32]
/-- the tape is divided -/
theorem s_divide (d : Nat) (S : zS) (N n : Int) (t : Int → Int) (h : 3 ≤ d) (hK : qK S) (hP : qP (zm S)) (kN : zk S N = (25, 0)) (kL : zk S (N + 1) = (0, 10)) (kE : zk S (N + 2) = (0, 4)) (hN : 103 ≤ N) (p1 : zm S 4 1 = n) (p5 : ∀ i, i < n → zm S 5 i = t i) (hn : 0 ≤ n ∧ n ≤ 60) (ho : qdok t n)
    (m0 : zm S N 0 = N + 1) (m1 : zm S N 1 = 0) (m2 : zm S N 2 = N + 2) (m3 : zm S N 3 = 0) :
    ∃ m', zD d 100 [vr 4, vr N] S = some (.inl none, qW S m') ∧ m' N 0 = N + 1 ∧ m' N 1 = qdvl t n.toNat ∧ m' N 2 = N + 2 ∧ m' N 3 = qcw t n.toNat ∧ (∀ x, x < N → m' x = zm S x) ∧
      (∀ j, 0 ≤ j → j < qdvl t n.toNat → m' (N + 1) j = qdvw t n.toNat j - 97) ∧ ∀ j, 0 ≤ j → j < qcw t n.toNat → m' (N + 2) j = qdE t n j := by
  obtain ⟨e, rfl, h1⟩ := qd h
  obtain ⟨⟨o1, o2, o3⟩, o4, o5⟩ := ho
  have lp : ∀ (k i : Nat) (m : Int → Int → Int), (i : Int) + k = n → (∀ x, x < N → m x = zm S x) → m N 0 = N + 1 → m N 1 = qdvl t i → m N 2 = N + 2 → m N 3 = qcw t i - 1 → (∀ j, 0 ≤ j → j < qdvl t i → m (N + 1) j = qdvw t i j - 97) → (∀ j, 0 ≤ j → j < qcw t i - 1 → m (N + 2) j = qdve t i j) →
      ∃ m', zF_100 e 2 [vr 4, vr N, vi i] [] (qW S m) = zF_100 e 48 [vr 4, vr N, vi n] [] (qW S m') ∧ (∀ x, x < N → m' x = zm S x) ∧ m' N 0 = N + 1 ∧ m' N 1 = qdvl t n.toNat ∧ m' N 2 = N + 2 ∧ m' N 3 = qcw t n.toNat - 1 ∧ (∀ j, 0 ≤ j → j < qdvl t n.toNat → m' (N + 1) j = qdvw t n.toNat j - 97) ∧ (∀ j, 0 ≤ j → j < qcw t n.toNat - 1 → m' (N + 2) j = qdve t n.toNat j) := by
    intro k
    induction k with
    | zero =>
      intro i m hi f0 f1 f2 f3 f4 f5 f6
      have hi : (i : Int) = n := by omega
      have hi2 : n.toNat = i := by omega
      have e4 : m 4 = zm S 4 := f0 4 (by omega)
      rw [hi2]
      refine ⟨m, ?_, f0, f1, f2, f3, f4, f5, f6⟩
      rw [b100_2]
      simp (config := { maxSteps := 2000000 }) (disch := first | omega | (simp only [K_4 hK, e4, qb_in, qkW, qmW, qnW, true_and, and_true, or_self, true_or, or_true, and_self]; done) | (simp only [K_4 hK, e4, qb_in, qkW, qmW, qnW, true_and, and_true, or_self, true_or, or_true, and_self]; omega)) only [b100_0, b100_10, b100_19, b100_22, b100_35, b100_38, b100_42, b100_52, qcall_l, qcall_r, qretn_l, qJ_s, qJ_n, qV0, qEx, ↓qif0, ↓zchk_pos, ↓reduceIte, qput, qWW, qmW, qkW, qnW, K_4 hK, e4, p1, hi, Int.lt_irrefl]
    | succ k ih =>
      intro i m hi f0 f1 f2 f3 f4 f5 f6
      have e4 : m 4 = zm S 4 := f0 4 (by omega)
      have e5 : ∀ i, i < n → m 5 i = t i := by rw [f0 5 (by omega)]; exact p5
      have hr := qdvl_r t i
      have hu := qdvl_u t (i + 1) (n.toNat - (i + 1))
      rw [show i + 1 + (n.toNat - (i + 1)) = n.toNat by omega] at hu
      have hw := qcw_r t i
      have q := o4 i (by omega) (by omega)
      have sm := fun T => s_isSmallLetter e (t i) T (by omega)
      by_cases c : t i = 32
      · rw [qb_n (show ¬ qsm (t i) by omega)] at sm
        have w1 : qcw t (i + 1) = qcw t i + 1 := by rw [qcw, if_pos (Or.inl c)]
        have l1 : qdvl t (i + 1) = qdvl t i := by rw [qdvl, if_pos c]; omega
        have ap := s_divEnd e (qW S m) N (N + 2) (qcw t i - 1) (qdvl t i) (by omega) kN kE (by omega) f3 f2 f4 (by omega)
        have ap : zD e 50 [vr N] (qW S m) = some (.inl none, qW S (qu (qu m (N + 2) (qcw t i - 1) (qdvl t i)) N 3 (qcw t i - 1 + 1))) := ap
        obtain ⟨m', r, g⟩ := ih (i + 1) (qu (qu m (N + 2) (qcw t i - 1) (qdvl t i)) N 3 (qcw t i - 1 + 1)) (by omega) (fun x x1 => by rw [qu_o _ _ _ _ _ (by omega), qu_o _ _ _ _ _ (by omega), f0 x x1]) (by rw [qu_i _ _ _ _ _ (by decide), qu_o _ _ _ _ _ (by omega), f1]) (by rw [qu_i _ _ _ _ _ (by decide), qu_o _ _ _ _ _ (by omega), f2, l1]) (by rw [qu_i _ _ _ _ _ (by decide), qu_o _ _ _ _ _ (by omega), f3]) (by rw [qu_s, w1]; omega) (fun j j1 j2 => by
          rw [l1] at j2
          rw [qu_o _ _ _ _ _ (by omega), qu_o _ _ _ _ _ (by omega), f5 j j1 j2, qdvw, if_pos c]) (fun j j1 j2 => by
          rw [w1] at j2
          rw [qu_o _ _ _ _ _ (by omega), qdve, if_pos c]
          show _ = if j = qcw t i - 1 then qdvl t i else qdve t i j
          by_cases z : j = qcw t i - 1
          · rw [z, qu_s, if_pos rfl]
          · rw [qu_i _ _ _ _ _ z, if_neg z, f6 j j1 (by omega)])
        refine ⟨m', ?_, g⟩
        rw [← r, b100_2]
        simp (config := { maxSteps := 2000000 }) (disch := first | omega | (simp only [K_4 hK, P_4_0 hP, K_5 hK, e4, kN, qb_in, qkW, qmW, qnW, true_and, and_true, or_self, true_or, or_true, and_self]; done) | (simp only [K_4 hK, P_4_0 hP, K_5 hK, e4, kN, qb_in, qkW, qmW, qnW, true_and, and_true, or_self, true_or, or_true, and_self]; omega)) only [b100_0, b100_10, b100_19, b100_22, b100_35, b100_38, b100_42, b100_52, qcall_l, qcall_r, qretn_l, qJ_s, qJ_n, qV0, qEx, ↓qif0, ↓zchk_pos, ↓reduceIte, qput, qWW, qmW, qkW, qnW, K_4 hK, P_4_0 hP, K_5 hK, e4, e5, p1, kN, if_pos (show (i : Int) < n by omega), sm, ap, q32, Int.reduceEq]
        rfl
      · have qs : qsm (t i) := q.resolve_right c
        rw [qb_p qs] at sm
        have w1 : qcw t (i + 1) = qcw t i := by rw [qcw, if_neg (by omega)]; omega
        have l1 : qdvl t (i + 1) = qdvl t i + 1 := by rw [qdvl, if_neg c]
        have ap := s_divAppend e (qW S m) N (N + 1) (qdvl t i) (t i - 97) (by omega) kN kL (by omega) f1 f2 (by omega)
        have ap : zD e 49 [vr N, vi (t i - 97)] (qW S m) = some (.inl none, qW S (qu (qu m (N + 1) (qdvl t i) (t i - 97)) N 1 (qdvl t i + 1))) := ap
        obtain ⟨m', r, g⟩ := ih (i + 1) (qu (qu m (N + 1) (qdvl t i) (t i - 97)) N 1 (qdvl t i + 1)) (by omega) (fun x x1 => by rw [qu_o _ _ _ _ _ (by omega), qu_o _ _ _ _ _ (by omega), f0 x x1]) (by rw [qu_i _ _ _ _ _ (by decide), qu_o _ _ _ _ _ (by omega), f1]) (by rw [qu_s, l1]) (by rw [qu_i _ _ _ _ _ (by decide), qu_o _ _ _ _ _ (by omega), f3]) (by rw [qu_i _ _ _ _ _ (by decide), qu_o _ _ _ _ _ (by omega), f4, w1]) (fun j j1 j2 => by
          rw [l1] at j2
          rw [qu_o _ _ _ _ _ (by omega), qdvw, if_neg c]
          show _ = (if j = qdvl t i then t i else qdvw t i j) - 97
          by_cases z : j = qdvl t i
          · rw [z, qu_s, if_pos rfl]
          · rw [qu_i _ _ _ _ _ z, if_neg z, f5 j j1 (by omega)]) (fun j j1 j2 => by
          rw [w1] at j2
          rw [qu_o _ _ _ _ _ (by omega), qu_o _ _ _ _ _ (by omega), f6 j j1 j2, qdve, if_neg c])
        refine ⟨m', ?_, g⟩
        rw [← r, b100_2]
        simp (config := { maxSteps := 2000000 }) (disch := first | omega | (simp only [K_4 hK, P_4_0 hP, K_5 hK, e4, kN, qb_in, qkW, qmW, qnW, true_and, and_true, or_self, true_or, or_true, and_self]; done) | (simp only [K_4 hK, P_4_0 hP, K_5 hK, e4, kN, qb_in, qkW, qmW, qnW, true_and, and_true, or_self, true_or, or_true, and_self]; omega)) only [b100_0, b100_10, b100_19, b100_22, b100_35, b100_38, b100_42, b100_52, qcall_l, qcall_r, qretn_l, qJ_s, qJ_n, qV0, qEx, ↓qif0, ↓zchk_pos, ↓reduceIte, qput, qWW, qmW, qkW, qnW, K_4 hK, P_4_0 hP, K_5 hK, e4, e5, p1, kN, if_pos (show (i : Int) < n by omega), sm, ap, q32, Int.reduceEq]
        rfl
  obtain ⟨m', r, f0, f1, f2, f3, f4, f5, f6⟩ := lp n.toNat 0 (zm S) (by omega) (fun _ _ => rfl) m0 m1 m2 m3 (fun j j1 j2 => by
    have : j < 0 := j2
    omega) (fun j j1 j2 => by
    have : j < 1 - 1 := j2
    omega)
  rw [qWS] at r
  have hw := qcw_r t n.toNat
  have ap := s_divEnd e (qW S m') N (N + 2) (qcw t n.toNat - 1) (qdvl t n.toNat) (by omega) kN kE (by omega) f3 f2 f4 (by omega)
  have ap : zD e 50 [vr N] (qW S m') = some (.inl none, qW S (qu (qu m' (N + 2) (qcw t n.toNat - 1) (qdvl t n.toNat)) N 3 (qcw t n.toNat - 1 + 1))) := ap
  have r : zF_100 e 2 [vr 4, vr N, vi 0] [] S = zF_100 e 48 [vr 4, vr N, vi n] [] (qW S m') := r
  have r2 : zF_100 e 48 [vr 4, vr N, vi n] [] (qW S m') = some (.inl none, qW S (qu (qu m' (N + 2) (qcw t n.toNat - 1) (qdvl t n.toNat)) N 3 (qcw t n.toNat - 1 + 1))) := by
    rw [b100_48]
    simp (config := { maxSteps := 2000000 }) (disch := first | omega | (simp only [kN, qb_in, qkW, qmW, qnW, true_and, and_true, or_self, true_or, or_true, and_self]; done) | (simp only [kN, qb_in, qkW, qmW, qnW, true_and, and_true, or_self, true_or, or_true, and_self]; omega)) only [b100_0, b100_10, b100_19, b100_22, b100_35, b100_38, b100_42, b100_48, b100_52, qcall_l, qcall_r, qretn_l, qJ_s, qJ_n, qV0, qEx, ↓qif0, ↓zchk_pos, ↓reduceIte, qput, qWW, qmW, qkW, qnW, kN, ap]
  refine ⟨qu (qu m' (N + 2) (qcw t n.toNat - 1) (qdvl t n.toNat)) N 3 (qcw t n.toNat - 1 + 1), ?_, ?_, ?_, ?_, ?_, fun x x1 => ?_, fun j j1 j2 => ?_, fun j j1 j2 => ?_⟩
  · rw [← r2, ← r]
    simp (config := { maxSteps := 2000000 }) (disch := first | omega | (simp only [qb_in, qkW, qmW, qnW, true_and, and_true, or_self, true_or, or_true, and_self]; done) | (simp only [qb_in, qkW, qmW, qnW, true_and, and_true, or_self, true_or, or_true, and_self]; omega)) only [zD_100, b100_0, b100_10, b100_19, b100_22, b100_35, b100_38, b100_42, b100_52, qcall_l, qcall_r, qretn_l, qJ_s, qJ_n, qV0, qEx, ↓qif0, ↓zchk_pos, ↓reduceIte, qput, qWW, qmW, qkW, qnW]
  · rw [qu_i _ _ _ _ _ (by decide), qu_o _ _ _ _ _ (by omega), f1]
  · rw [qu_i _ _ _ _ _ (by decide), qu_o _ _ _ _ _ (by omega), f2]
  · rw [qu_i _ _ _ _ _ (by decide), qu_o _ _ _ _ _ (by omega), f3]
  · rw [qu_s]; omega
  · rw [qu_o _ _ _ _ _ (by omega), qu_o _ _ _ _ _ (by omega), f0 x x1]
  · rw [qu_o _ _ _ _ _ (by omega), qu_o _ _ _ _ _ (by omega), f5 j j1 j2]
  · rw [qu_o _ _ _ _ _ (by omega)]
    unfold qdE
    by_cases z : j = qcw t n.toNat - 1
    · rw [z, qu_s, if_pos rfl]
    · rw [qu_i _ _ _ _ _ z, if_neg z, f6 j j1 (by omega)]
