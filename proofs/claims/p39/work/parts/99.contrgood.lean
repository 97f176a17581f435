/-! A contraction that is taken: what the reference does. -/
theorem r_isCode' (d : Nat) (S : zS) (c : Int) (h : 2 ≤ d) (hK : qK S) (r2 : 0 ≤ zm S 37 4 ∧ zm S 37 4 ≤ 3) : zD d 209 [vr 37, vi c] S = some (.inl (some (vi (qb (0 ≤ c ∧ c ≤ zm S 37 4 - 1)))), S) := by
  obtain ⟨e, rfl, h1⟩ := qd h
  have hi := r_in e c 0 (zm S 37 4 - 1) S (by omega)
  simp (config := { maxSteps := 2000000 }) (disch := first | omega | (simp only [K_37 hK, qb_in, qkW, qmW, qnW, true_and, and_true, or_self, true_or, or_true, and_self]; done) | (simp only [K_37 hK, qb_in, qkW, qmW, qnW, true_and, and_true, or_self, true_or, or_true, and_self]; omega)) only [zD_209, b209_0, b209_11, qcall_l, qcall_r, qretn_l, qJ_s, qJ_n, qV0, qEx, ↓qif0, ↓zchk_pos, ↓reduceIte, qput, qWW, qmW, qkW, qnW, K_37 hK, q32, hi]
theorem r_contrGood (e : Nat) (Z : zS) (c g p f s n K : Int) (t : Int → Int) (he : 3 ≤ e) (hK : qK Z) (hP : qP (zm Z)) (hT : 0 ≤ n ∧ n ≤ 60) (hC : 0 ≤ zm Z 37 4 ∧ zm Z 37 4 ≤ 3) (hB : 0 ≤ zm Z 37 16 ∧ zm Z 37 16 ≤ 4) (p2 : zm Z 37 2 = n) (p38 : zm Z 38 = t) (ht : ∀ i, 0 ≤ i → i < n → 0 ≤ t i ∧ t i < 65536)
    (h1 : 0 ≤ c ∧ c < zm Z 37 4) (h2 : qcok0 n g p f s ∧ qslt t n) (hk : zm Z 39 c = K) (hk2 : 0 ≤ K ∧ K < 24) (hw0 : qhwf (zm Z) c (zm Z 37 16).toNat = 0) :
    ∃ m1, zD (e + 1) 211 [vr 37, vi c, vi g, vi p, vi f, vi s] Z = some (.inl (some (vi K)), qW Z (qu (qu (qu (qu (qu (qu (qu m1 37 2 0) 41 (24 * c + K) n) 44 (24 * c + K) g) 45 (24 * c + K) p) 42 (24 * c + K) f) 43 (24 * c + K) s) 39 c (K + 1))) ∧
      (∀ x, x ≠ 40 → m1 x = qu (zm Z) 37 0 0 x) ∧ ∀ i, m1 40 i = if 6 * (24 * c + K) ≤ i ∧ i < 6 * (24 * c + K) + n then t (i - 6 * (24 * c + K)) else zm Z 40 i := by
  obtain ⟨k1, k2⟩ := r_contrCheck e Z c g p f s n t (by omega) hK hP p2 p38 hT
  have ic := r_isCode' e Z c (by omega) hK hC
  have c3 := hC
  rw [qb_p (show 0 ≤ c ∧ c ≤ zm Z 37 4 - 1 by omega)] at ic
  have hd := r_holds e Z 0 (by omega) hK
  rw [qb_p rfl] at hd
  have hw := r_hasWords e Z c (by omega) hK hP hB
  rw [hw0] at hw
  generalize hA : 24 * c + K = A at *
  have hA2 : 0 ≤ A ∧ A < 72 := by omega
  have lp : ∀ (k i : Nat) (m : Int → Int → Int) (x6 x7 : zV), (i : Int) + k = n → (∀ x, x ≠ 40 → m x = qu (zm Z) 37 0 0 x) → (∀ j, m 40 j = if 6 * A ≤ j ∧ j < 6 * A + i then t (j - 6 * A) else zm Z 40 j) →
      ∃ m1, zF_211 e 176 [vr 37, vi c, vi g, vi p, vi f, vi s, x6, x7, vi A, vi i] [] (qW Z m) = zF_211 e 211 [vr 37, vi c, vi g, vi p, vi f, vi s, vu, vu, vi A, vi n] [] (qW Z m1) ∧ (∀ x, x ≠ 40 → m1 x = qu (zm Z) 37 0 0 x) ∧ ∀ j, m1 40 j = if 6 * A ≤ j ∧ j < 6 * A + n then t (j - 6 * A) else zm Z 40 j := by
    intro k
    induction k with
    | zero =>
      intro i m x6 x7 hi f1 f2
      have hi : (i : Int) = n := by omega
      have e37 : m 37 2 = n := by rw [f1 37 (by decide), qu_i _ _ _ _ _ (by decide)]; exact p2
      rw [hi] at f2
      refine ⟨m, ?_, f1, f2⟩
      rw [b211_176]
      simp (config := { maxSteps := 2000000 }) (disch := first | omega | (simp only [K_37 hK, qb_in, qkW, qmW, qnW, true_and, and_true, or_self, true_or, or_true, and_self]; done) | (simp only [K_37 hK, qb_in, qkW, qmW, qnW, true_and, and_true, or_self, true_or, or_true, and_self]; omega)) only [b211_0, b211_10, b211_13, b211_19, b211_22, b211_28, b211_31, b211_36, b211_39, b211_44, b211_49, b211_52, b211_56, b211_57, b211_71, b211_76, b211_86, b211_89, b211_93, b211_94, b211_102, b211_107, b211_115, b211_119, b211_124, b211_128, b211_139, b211_144, b211_147, b211_151, b211_152, b211_155, b211_158, b211_160, b211_174, b211_185, b211_203, b211_221, b211_237, b211_255, b211_267, qcall_l, qcall_r, qretn_l, qJ_s, qJ_n, qV0, qEx, ↓qif0, ↓zchk_pos, ↓reduceIte, qput, qWW, qmW, qkW, qnW, K_37 hK, e37, hi, Int.lt_irrefl]
    | succ k ih =>
      intro i m x6 x7 hi f1 f2
      have e372 : m 37 2 = n := by rw [f1 37 (by decide), qu_i _ _ _ _ _ (by decide)]; exact p2
      have e371 : m 37 1 = 38 := by rw [f1 37 (by decide), qu_i _ _ _ _ _ (by decide)]; exact P_37_1 hP
      have e376 : m 37 6 = 40 := by rw [f1 37 (by decide), qu_i _ _ _ _ _ (by decide)]; exact P_37_6 hP
      have e38 : m 38 = t := by rw [f1 38 (by decide), qu_o _ _ _ _ _ (by decide)]; exact p38
      have tr := ht i (by omega) (by omega)
      have t1 : t i % 65536 = t i := by omega
      obtain ⟨m1, r, q⟩ := ih (i + 1) (qu m 40 (6 * A + i) (t i)) vu vu (by omega) (fun x x1 => by rw [qu_o _ _ _ _ _ x1, f1 x x1]) (fun j => by
        rw [qu_row]
        show (if j = 6 * A + i then t i else m 40 j) = _
        by_cases q : j = 6 * A + i
        · rw [if_pos q, if_pos (by omega), q, show 6 * A + (i : Int) - 6 * A = i by omega]
        · rw [if_neg q, f2]
          by_cases q2 : 6 * A ≤ j ∧ j < 6 * A + i
          · rw [if_pos q2, if_pos (by omega)]
          · rw [if_neg q2, if_neg (by omega)])
      refine ⟨m1, ?_, q⟩
      rw [b211_176]
      simp (config := { maxSteps := 2000000 }) (disch := first | omega | (simp only [K_37 hK, K_38 hK, K_40 hK, e371, e376, qb_in, qkW, qmW, qnW, true_and, and_true, or_self, true_or, or_true, and_self]; done) | (simp only [K_37 hK, K_38 hK, K_40 hK, e371, e376, qb_in, qkW, qmW, qnW, true_and, and_true, or_self, true_or, or_true, and_self]; omega)) only [b211_0, b211_10, b211_13, b211_19, b211_22, b211_28, b211_31, b211_36, b211_39, b211_44, b211_49, b211_52, b211_56, b211_57, b211_71, b211_76, b211_86, b211_89, b211_93, b211_94, b211_102, b211_107, b211_115, b211_119, b211_124, b211_128, b211_139, b211_144, b211_147, b211_151, b211_152, b211_155, b211_158, b211_160, b211_174, b211_185, b211_203, b211_221, b211_237, b211_255, b211_267, qcall_l, qcall_r, qretn_l, qJ_s, qJ_n, qV0, qEx, ↓qif0, ↓zchk_pos, ↓reduceIte, qput, qWW, qmW, qkW, qnW, K_37 hK, K_38 hK, K_40 hK, e372, e371, e376, e38, t1, if_pos (show (i : Int) < n by omega), q32]
      exact r
  obtain ⟨m1, r1, q1, q2⟩ := lp n.toNat 0 (qu (zm Z) 37 0 0) vu vu (by omega) (fun _ _ => rfl) (fun j => by rw [if_neg (by omega), qu_o _ _ _ _ _ (by decide)])
  refine ⟨m1, ?_, q1, q2⟩
  have r1 : zF_211 e 176 [vr 37, vi c, vi g, vi p, vi f, vi s, vu, vu, vi A, vi 0] [] (qW Z (qu (zm Z) 37 0 0)) = zF_211 e 211 [vr 37, vi c, vi g, vi p, vi f, vi s, vu, vu, vi A, vi n] [] (qW Z m1) := r1
  have j37 : ∀ j, j ≠ 0 → m1 37 j = zm Z 37 j := fun j hj => by rw [q1 37 (by decide), qu_i _ _ _ _ _ hj]
  have m39 : m1 39 c = K := by rw [q1 39 (by decide), qu_o _ _ _ _ _ (by decide)]; exact hk
  obtain ⟨e2, rfl, he2⟩ := qd (show 1 + 1 ≤ e by omega)
  have wp : zD (e2 + 1) 197 [vr 37] (qW Z m1) = some (.inl (some (vi n)), qW Z (qu m1 37 2 0)) := by
    have g2 : m1 37 2 = n := by rw [j37 2 (by decide)]; exact p2
    simp (config := { maxSteps := 2000000 }) (disch := first | omega | (simp only [K_37 hK, qb_in, qkW, qmW, qnW, true_and, and_true, or_self, true_or, or_true, and_self]; done) | (simp only [K_37 hK, qb_in, qkW, qmW, qnW, true_and, and_true, or_self, true_or, or_true, and_self]; omega)) only [zD_197, b197_0, qcall_l, qcall_r, qretn_l, qJ_s, qJ_n, qV0, qEx, ↓qif0, ↓zchk_pos, ↓reduceIte, qput, qWW, qmW, qkW, qnW, K_37 hK, g2]
  have tl : zF_211 (e2 + 1) 211 [vr 37, vi c, vi g, vi p, vi f, vi s, vu, vu, vi A, vi n] [] (qW Z m1) = some (.inl (some (vi K)), qW Z (qu (qu (qu (qu (qu (qu (qu m1 37 2 0) 41 A n) 44 A g) 45 A p) 42 A f) 43 A s) 39 c (K + 1))) := by
    have a5 : m1 37 5 = 39 := by rw [j37 5 (by decide)]; exact P_37_5 hP
    have a7 : m1 37 7 = 41 := by rw [j37 7 (by decide)]; exact P_37_7 hP
    have a8 : m1 37 8 = 42 := by rw [j37 8 (by decide)]; exact P_37_8 hP
    have a9 : m1 37 9 = 43 := by rw [j37 9 (by decide)]; exact P_37_9 hP
    have a10 : m1 37 10 = 44 := by rw [j37 10 (by decide)]; exact P_37_10 hP
    have a11 : m1 37 11 = 45 := by rw [j37 11 (by decide)]; exact P_37_11 hP
    rw [b211_211]
    simp (config := { maxSteps := 2000000 }) (disch := first | omega | (simp only [K_37 hK, K_39 hK, K_41 hK, K_42 hK, K_43 hK, K_44 hK, K_45 hK, qu_o, qu_i, a5, a7, a8, a9, a10, a11, qb_in, qkW, qmW, qnW, true_and, and_true, or_self, true_or, or_true, and_self]; done) | (simp only [K_37 hK, K_39 hK, K_41 hK, K_42 hK, K_43 hK, K_44 hK, K_45 hK, qu_o, qu_i, a5, a7, a8, a9, a10, a11, qb_in, qkW, qmW, qnW, true_and, and_true, or_self, true_or, or_true, and_self]; omega)) only [b211_0, b211_10, b211_13, b211_19, b211_22, b211_28, b211_31, b211_36, b211_39, b211_44, b211_49, b211_52, b211_56, b211_57, b211_71, b211_76, b211_86, b211_89, b211_93, b211_94, b211_102, b211_107, b211_115, b211_119, b211_124, b211_128, b211_139, b211_144, b211_147, b211_151, b211_152, b211_155, b211_158, b211_160, b211_174, b211_185, b211_203, b211_211, b211_221, b211_237, b211_255, b211_267, qcall_l, qcall_r, qretn_l, qJ_s, qJ_n, qV0, qEx, ↓qif0, ↓zchk_pos, ↓reduceIte, qput, qWW, qmW, qkW, qnW, K_37 hK, wp, qu_o, qu_i, qu_s, a5, a7, a8, a9, a10, a11, m39, K_39 hK, K_41 hK, K_42 hK, K_43 hK, K_44 hK, K_45 hK, q32, show K + 1 - 1 = K by omega]
  have st : zD (e2 + 1 + 1) 211 [vr 37, vi c, vi g, vi p, vi f, vi s] Z = zF_211 (e2 + 1) 102 [vr 37, vi c, vi g, vi p, vi f, vi s, vi 1, vi n, vu, vu] [] Z := k1 h2
  have e375 : qu (zm Z) 37 0 0 37 5 = 39 := by rw [qu_i _ _ _ _ _ (by decide)]; exact P_37_5 hP
  have e39 : qu (zm Z) 37 0 0 39 = zm Z 39 := qu_o _ _ _ _ _ (by decide)
  rw [st, ← tl, ← r1, b211_102]
  simp (config := { maxSteps := 2000000 }) (disch := first | omega | (simp only [K_37 hK, K_39 hK, P_37_5 hP, hk, e375, qb_in, qkW, qmW, qnW, true_and, and_true, or_self, true_or, or_true, and_self]; done) | (simp only [K_37 hK, K_39 hK, P_37_5 hP, hk, e375, qb_in, qkW, qmW, qnW, true_and, and_true, or_self, true_or, or_true, and_self]; omega)) only [b211_0, b211_10, b211_13, b211_19, b211_22, b211_28, b211_31, b211_36, b211_39, b211_44, b211_49, b211_52, b211_56, b211_57, b211_71, b211_76, b211_86, b211_89, b211_93, b211_94, b211_102, b211_107, b211_115, b211_119, b211_124, b211_128, b211_139, b211_144, b211_147, b211_151, b211_152, b211_155, b211_158, b211_160, b211_174, b211_185, b211_203, b211_221, b211_237, b211_255, b211_267, qcall_l, qcall_r, qretn_l, qJ_s, qJ_n, qV0, qEx, ↓qif0, ↓zchk_pos, ↓reduceIte, qput, qWW, qmW, qkW, qnW, K_37 hK, ic, hd, hw, hk, e375, e39, K_39 hK, P_37_5 hP, hA, if_neg (show ¬ K = 24 by omega), q32, Int.reduceEq]
