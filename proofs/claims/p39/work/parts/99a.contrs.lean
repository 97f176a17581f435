/-! A contraction that is taken: what the class does. -/
theorem s_contrLoop (e : Nat) (S : zS) (a N n : Int) (t : Int → Int) (he : 1 ≤ e) (hK : qK S) (hP : qP (zm S)) (kN : zk S N = (23, 0)) (kL : zk S (N + 1) = (0, 6)) (hN : 103 ≤ N) (p1 : zm S 4 1 = n) (p5 : ∀ i, i < n → zm S 5 i = t i) (hn : 2 ≤ n ∧ n ≤ 6) (hs : qslt t n) (m0 : zm S N 0 = N + 1) : ∀ (k i : Nat) (m : Int → Int → Int), (i : Int) + k = n → m N 1 = i → (∀ j, j ≠ 1 → m N j = zm S N j) → (∀ x, x ≠ N → x ≠ N + 1 → m x = zm S x) → (∀ j, 0 ≤ j → j < (i : Int) → m (N + 1) j = t j - 97) →
    ∃ m', zF_119 e 137 [vr 3, vu, vu, vu, vu, vu, vr a, vr N, vi i] [] (qW S m) = zF_119 e 180 [vr 3, vu, vu, vu, vu, vu, vr a, vr N, vi n] [] (qW S m') ∧ m' N 1 = n ∧ (∀ j, j ≠ 1 → m' N j = zm S N j) ∧ (∀ x, x ≠ N → x ≠ N + 1 → m' x = zm S x) ∧ ∀ j, 0 ≤ j → j < n → m' (N + 1) j = t j - 97 := by
  intro k
  induction k with
  | zero =>
    intro i m hi h1 f1 f2 f3
    have hi : (i : Int) = n := by omega
    rw [hi] at h1 f3
    have e3 : m 3 = zm S 3 := f2 3 (by omega) (by omega)
    have e4 : m 4 = zm S 4 := f2 4 (by omega) (by omega)
    refine ⟨m, ?_, h1, f1, f2, f3⟩
    rw [b119_137]
    simp (config := { maxSteps := 2000000 }) (disch := first | omega | (simp only [K_3 hK, K_4 hK, P_3_0 hP, P_3_0 hP, e3, qb_in, qkW, qmW, qnW, true_and, and_true, or_self, true_or, or_true, and_self]; done) | (simp only [K_3 hK, K_4 hK, P_3_0 hP, P_3_0 hP, e3, qb_in, qkW, qmW, qnW, true_and, and_true, or_self, true_or, or_true, and_self]; omega)) only [b119_0, b119_5, b119_17, b119_20, b119_30, b119_35, b119_40, b119_44, b119_49, b119_59, b119_64, b119_67, b119_72, b119_77, b119_80, b119_90, b119_100, b119_106, b119_109, b119_119, b119_132, b119_149, b119_156, b119_174, b119_195, qcall_l, qcall_r, qretn_l, qJ_s, qJ_n, qV0, qEx, ↓qif0, ↓zchk_pos, ↓reduceIte, qput, qWW, qmW, qkW, qnW, K_3 hK, K_4 hK, P_3_0 hP, e3, e4, P_3_0 hP, p1, hi, Int.lt_irrefl]
  | succ k ih =>
    intro i m hi h1 f1 f2 f3
    have e3 : m 3 = zm S 3 := f2 3 (by omega) (by omega)
    have e4 : m 4 = zm S 4 := f2 4 (by omega) (by omega)
    have e5 : ∀ i, i < n → m 5 i = t i := by rw [f2 5 (by omega) (by omega)]; exact p5
    have m0' : m N 0 = N + 1 := by rw [f1 0 (by decide)]; exact m0
    have sm := hs i (by omega) (by omega)
    have ap := s_contrAppend e (qW S m) N (N + 1) i (t i - 97) he kN kL (by omega) m0' h1 (by omega)
    obtain ⟨m', r, q⟩ := ih (i + 1) (qu (qu m (N + 1) i (t i - 97)) N 1 (i + 1)) (by omega) (qu_s _ _ _ _) (fun j hj => by rw [qu_i _ _ _ _ _ hj, qu_o _ _ _ _ _ (by omega), f1 j hj]) (fun x x1 x2 => by rw [qu_o _ _ _ _ _ x1, qu_o _ _ _ _ _ x2, f2 x x1 x2]) (fun j j1 j2 => by
      rw [qu_o _ _ _ _ _ (by omega)]
      by_cases c : j = i
      · rw [c, qu_s]
      · rw [qu_i _ _ _ _ _ c]
        exact f3 j j1 (by omega))
    refine ⟨m', ?_, q⟩
    rw [b119_137]
    simp (config := { maxSteps := 2000000 }) (disch := first | omega | (simp only [K_3 hK, K_4 hK, P_3_0 hP, P_3_0 hP, P_4_0 hP, K_5 hK, kN, e3, e4, qb_in, qkW, qmW, qnW, true_and, and_true, or_self, true_or, or_true, and_self]; done) | (simp only [K_3 hK, K_4 hK, P_3_0 hP, P_3_0 hP, P_4_0 hP, K_5 hK, kN, e3, e4, qb_in, qkW, qmW, qnW, true_and, and_true, or_self, true_or, or_true, and_self]; omega)) only [b119_0, b119_5, b119_17, b119_20, b119_30, b119_35, b119_40, b119_44, b119_49, b119_59, b119_64, b119_67, b119_72, b119_77, b119_80, b119_90, b119_100, b119_106, b119_109, b119_119, b119_132, b119_149, b119_156, b119_174, b119_195, qcall_l, qcall_r, qretn_l, qJ_s, qJ_n, qV0, qEx, ↓qif0, ↓zchk_pos, ↓reduceIte, qput, qWW, qmW, qkW, qnW, K_3 hK, K_4 hK, P_3_0 hP, e3, e4, e5, P_3_0 hP, P_4_0 hP, K_5 hK, kN, p1, if_pos (show (i : Int) < n by omega), if_pos (show (i : Int) < 6 by omega), ap, q32]
    exact r
