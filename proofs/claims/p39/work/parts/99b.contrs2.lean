/-! A contraction that is taken: the class's whole step. -/
theorem s_contrGood (e : Nat) (S : zS) (c g p f s n K N a : Int) (t : Int → Int) (he : 5 ≤ e) (hK : qK S) (hP : qP (zm S)) (hT : qRT S) (hC : qRC S) (hB : qBh S) (hN : (zn S : Int) = N) (hN2 : 103 ≤ N) (p2 : zm S 37 2 = n) (p38 : zm S 38 = t)
    (h1 : 0 ≤ c ∧ c < zm S 37 4) (h2 : qcok0 n g p f s ∧ qslt t n) (hk : zm S 39 c = K) (hk2 : K < 24) (hw0 : qhwf (zm S) c (zm S 37 16).toNat = 0) (ha : zm S 6 c = a) :
    ∃ S1, zD (e + 1) 119 [vr 3, vi c, vi g, vi p, vi f, vi s] S = some (.inl (some (vi K)), S1) ∧ (zn S1 : Int) = N + 2 ∧ zc S1 = zc S + 2 ∧ zw S1 = zw S + 12 ∧ (∀ x, zk S1 x = if x = N + 1 then (0, 6) else if x = N then (23, 0) else zk S x) ∧
      (zm S1 N 0 = N + 1 ∧ zm S1 N 1 = n ∧ zm S1 N 2 = g ∧ zm S1 N 3 = p ∧ zm S1 N 4 = f ∧ zm S1 N 5 = s ∧ ∀ j, 0 ≤ j → j < n → zm S1 (N + 1) j = t j - 97) ∧
      ∃ m', zm S1 = qu (qu (qu m' 4 1 0) (a + 1) K N) a 1 (K + 1) ∧ ∀ x, x < N → m' x = zm S x := by
  obtain ⟨⟨y1, y2, y3, y4, y5⟩, y6⟩ := h2
  obtain ⟨t1, t2, t3, t4⟩ := hT
  have co := s_codeOf_y e S c (by omega) hK hP hC h1
  have cn := hC.2.2.1 c h1.1 h1.2
  rw [ha] at co cn
  rw [hk] at cn
  have kc : zk S a = (22, 0) := cn.1.1
  have kc1 : zk S (a + 1) = (12, 24) := cn.1.2.1
  have c0 : zm S a 0 = a + 1 := cn.1.2.2.2.2.2.1
  have ca : 103 ≤ a ∧ a + 5 ≤ N := by
    obtain ⟨-, -, -, -, -, -, -, -, -, q1, q2⟩ := cn.1
    omega
  have nc : zm S a 1 = K := cn.2.1.2.2.1
  have nr : 0 ≤ K := cn.2.1.2.2.2.1.1
  have l1 := (s_isSmallLetters e S n (zm S 5) (by omega) hK hP (by rw [t1, p2]) rfl (by omega)).1 (by rw [← p2] at y6 ⊢; rw [qslt_e t3, p38]; exact y6)
  rw [if_pos y1] at l1
  have f1 := s_canBeContracted e S f (by omega)
  rw [qb_p y4] at f1
  have hw := s_hasWordsOfCode e S c (by omega) hK hP hC hB h1
  rw [hw0, ha] at hw
  have ci := s_contrInit e (zalloc S 23 0 6) N g p f s (N + 1) (by omega) (qal_e _ _ _ _ hN.symm) (by omega) (by rw [qal_n, hN])
  generalize hS1 : qW (zalloc (zalloc S 23 0 6) 0 6 6) (qu (qu (qu (qu (qu (qz (zm (zalloc S 23 0 6)) (N + 1)) N 0 (N + 1)) N 2 g) N 3 p) N 4 f) N 5 s) = S1 at ci
  have k1 : ∀ x, zk S1 x = if x = N + 1 then (0, 6) else if x = N then (23, 0) else zk S x := fun x => by rw [← hS1, ← hN]; rfl
  have e1 : zm S1 = qu (qu (qu (qu (qu (qz (qz (zm S) N) (N + 1)) N 0 (N + 1)) N 2 g) N 3 p) N 4 f) N 5 s := by rw [← hS1, ← hN]; rfl
  have lo : ∀ x, x < N → zm S1 x = zm S x := fun x hx => by
    rw [e1, qu_o _ _ _ _ _ (by omega), qu_o _ _ _ _ _ (by omega), qu_o _ _ _ _ _ (by omega), qu_o _ _ _ _ _ (by omega), qu_o _ _ _ _ _ (by omega), qz_o _ (by omega), qz_o _ (by omega)]
  have lk : ∀ x, x < N → zk S1 x = zk S x := fun x hx => by rw [k1, if_neg (by omega), if_neg (by omega)]
  have kN : zk S1 N = (23, 0) := by rw [k1, if_neg (by omega), if_pos rfl]
  have kL : zk S1 (N + 1) = (0, 6) := by rw [k1, if_pos rfl]
  have v0 : zm S1 N 0 = N + 1 := by rw [e1, qu_i _ _ _ _ _ (by decide), qu_i _ _ _ _ _ (by decide), qu_i _ _ _ _ _ (by decide), qu_i _ _ _ _ _ (by decide), qu_s]
  have v1 : zm S1 N 1 = 0 := by rw [e1, qu_i _ _ _ _ _ (by decide), qu_i _ _ _ _ _ (by decide), qu_i _ _ _ _ _ (by decide), qu_i _ _ _ _ _ (by decide), qu_i _ _ _ _ _ (by decide), qz_o _ (by omega), qz_s]
  have v2 : zm S1 N 2 = g := by rw [e1, qu_i _ _ _ _ _ (by decide), qu_i _ _ _ _ _ (by decide), qu_i _ _ _ _ _ (by decide), qu_s]
  have v3 : zm S1 N 3 = p := by rw [e1, qu_i _ _ _ _ _ (by decide), qu_i _ _ _ _ _ (by decide), qu_s]
  have v4 : zm S1 N 4 = f := by rw [e1, qu_i _ _ _ _ _ (by decide), qu_s]
  have v5 : zm S1 N 5 = s := by rw [e1, qu_s]
  have hK1 : qK S1 := qK_g hK (by omega) (fun x hx => lk x (by omega))
  have hP1 : qP (zm S1) := hP.same fun q hq => by
    rw [lo q.1 ?_]
    have : q.1 ≤ 102 := by
      revert q
      decide
    omega
  obtain ⟨m', r, u1, u2, u3, u4⟩ := s_contrLoop e S1 a N n t (by omega) hK1 hP1 kN kL hN2 (by rw [lo 4 (by omega), t1, p2]) (by rw [lo 5 (by omega), ← p38, ← p2]; exact t3) y1 y6 v0 n.toNat 0 (zm S1) (by omega) v1 (fun _ _ => rfl) (fun _ _ _ => rfl) (fun j j1 j2 => by omega)
  rw [qWS] at r
  have r : zF_119 e 137 [vr 3, vu, vu, vu, vu, vu, vr a, vr N, vi 0] [] S1 = zF_119 e 180 [vr 3, vu, vu, vu, vu, vu, vr a, vr N, vi n] [] (qW S1 m') := r
  have w0 : qu m' 4 1 0 a = zm S a := by rw [qu_o _ _ _ _ _ (by omega), u3 a (by omega) (by omega), lo a (by omega)]
  have ap := s_codeAppend e (qW S1 (qu m' 4 1 0)) a (a + 1) N K (by omega) (by rw [qkW, lk a (by omega)]; exact kc) (by rw [qkW, lk (a + 1) (by omega)]; exact kc1) kN (by omega) (by rw [qmW, w0]; exact c0) (by rw [qmW, w0]; exact nc) ⟨nr, hk2⟩
  have ap : zD e 17 [vr a, vr N] (qW S1 (qu m' 4 1 0)) = some (.inl (some (vi K)), qW S1 (qu (qu (qu m' 4 1 0) (a + 1) K N) a 1 (K + 1))) := ap
  have m3 : m' 3 = zm S 3 := by rw [u3 3 (by omega) (by omega), lo 3 (by omega)]
  have ka1 : zk S1 a = (22, 0) := by rw [lk a (by omega)]; exact kc
  have end1 : zF_119 e 180 [vr 3, vu, vu, vu, vu, vu, vr a, vr N, vi n] [] (qW S1 m') = some (.inl (some (vi K)), qW S1 (qu (qu (qu m' 4 1 0) (a + 1) K N) a 1 (K + 1))) := by
    rw [b119_180]
    simp (config := { maxSteps := 2000000 }) (disch := first | omega | (simp only [K_3 hK, K_4 hK, P_3_0 hP, K_3 hK1, K_4 hK1, m3, P_3_0 hP, ka1, qb_in, qkW, qmW, qnW, true_and, and_true, or_self, true_or, or_true, and_self]; done) | (simp only [K_3 hK, K_4 hK, P_3_0 hP, K_3 hK1, K_4 hK1, m3, P_3_0 hP, ka1, qb_in, qkW, qmW, qnW, true_and, and_true, or_self, true_or, or_true, and_self]; omega)) only [b119_0, b119_5, b119_17, b119_20, b119_30, b119_35, b119_40, b119_44, b119_49, b119_59, b119_64, b119_67, b119_72, b119_77, b119_80, b119_90, b119_100, b119_106, b119_109, b119_119, b119_132, b119_149, b119_156, b119_174, b119_180, b119_195, qcall_l, qcall_r, qretn_l, qJ_s, qJ_n, qV0, qEx, ↓qif0, ↓zchk_pos, ↓reduceIte, qput, qWW, qmW, qkW, qnW, K_3 hK, K_4 hK, P_3_0 hP, K_3 hK1, K_4 hK1, m3, P_3_0 hP, ka1, ap]
  have end2 : zF_119 e 90 [vr 3, vu, vi g, vi p, vi f, vi s, vr a, vu, vu] [] S = some (.inl (some (vi K)), qW S1 (qu (qu (qu m' 4 1 0) (a + 1) K N) a 1 (K + 1))) := by
    rw [← end1, ← r, b119_90]
    simp (config := { maxSteps := 2000000 }) (disch := first | omega | (simp only [K_3 hK, kc, hN, qb_in, qkW, qmW, qnW, true_and, and_true, or_self, true_or, or_true, and_self]; done) | (simp only [K_3 hK, kc, hN, qb_in, qkW, qmW, qnW, true_and, and_true, or_self, true_or, or_true, and_self]; omega)) only [b119_0, b119_5, b119_17, b119_20, b119_30, b119_35, b119_40, b119_44, b119_49, b119_59, b119_64, b119_67, b119_72, b119_77, b119_80, b119_90, b119_100, b119_106, b119_109, b119_119, b119_132, b119_149, b119_156, b119_174, b119_195, qcall_l, qcall_r, qretn_l, qJ_s, qJ_n, qV0, qEx, ↓qif0, ↓zchk_pos, ↓reduceIte, qput, qWW, qmW, qkW, qnW, K_3 hK, kc, nc, if_pos hk2, hw, hN, ci, Int.reduceEq]
  have hm : ∀ x, x < N → m' x = zm S x := fun x hx => by rw [u3 x (by omega) (by omega), lo x hx]
  refine ⟨qW S1 (qu (qu (qu m' 4 1 0) (a + 1) K N) a 1 (K + 1)), ?_, ?_, ?_, ?_, fun x => by rw [qkW]; exact k1 x, ?_, m', rfl, hm⟩
  · rcases y5 with y5 | y5
    · simp (config := { maxSteps := 2000000 }) (disch := first | omega | (simp only [K_3 hK, K_4 hK, P_3_0 hP, P_3_0 hP, qb_in, qkW, qmW, qnW, true_and, and_true, or_self, true_or, or_true, and_self]; done) | (simp only [K_3 hK, K_4 hK, P_3_0 hP, P_3_0 hP, qb_in, qkW, qmW, qnW, true_and, and_true, or_self, true_or, or_true, and_self]; omega)) only [zD_119, b119_0, b119_5, b119_17, b119_20, b119_30, b119_35, b119_40, b119_44, b119_49, b119_59, b119_64, b119_67, b119_72, b119_77, b119_80, b119_100, b119_106, b119_109, b119_119, b119_132, b119_149, b119_156, b119_174, b119_180, b119_195, qcall_l, qcall_r, qretn_l, qJ_s, qJ_n, qV0, qEx, ↓qif0, ↓zchk_pos, ↓reduceIte, qput, qWW, qmW, qkW, qnW, K_3 hK, K_4 hK, P_3_0 hP, P_3_0 hP, co, l1, f1, if_neg (show ¬ g < 1 by omega), if_neg (show ¬ 3 < g by omega), if_neg (show ¬ p < 0 by omega), if_neg (show ¬ 4 < p by omega), if_pos y5, end2, Int.reduceEq]
    · have f2 := s_canBeContracted e S s (by omega)
      rw [qb_p y5] at f2
      by_cases s0 : s = 0
      · simp (config := { maxSteps := 2000000 }) (disch := first | omega | (simp only [K_3 hK, K_4 hK, P_3_0 hP, P_3_0 hP, qb_in, qkW, qmW, qnW, true_and, and_true, or_self, true_or, or_true, and_self]; done) | (simp only [K_3 hK, K_4 hK, P_3_0 hP, P_3_0 hP, qb_in, qkW, qmW, qnW, true_and, and_true, or_self, true_or, or_true, and_self]; omega)) only [zD_119, b119_0, b119_5, b119_17, b119_20, b119_30, b119_35, b119_40, b119_44, b119_49, b119_59, b119_64, b119_67, b119_72, b119_77, b119_80, b119_100, b119_106, b119_109, b119_119, b119_132, b119_149, b119_156, b119_174, b119_180, b119_195, qcall_l, qcall_r, qretn_l, qJ_s, qJ_n, qV0, qEx, ↓qif0, ↓zchk_pos, ↓reduceIte, qput, qWW, qmW, qkW, qnW, K_3 hK, K_4 hK, P_3_0 hP, P_3_0 hP, co, l1, f1, if_neg (show ¬ g < 1 by omega), if_neg (show ¬ 3 < g by omega), if_neg (show ¬ p < 0 by omega), if_neg (show ¬ 4 < p by omega), if_pos s0, end2, Int.reduceEq]
      · simp (config := { maxSteps := 2000000 }) (disch := first | omega | (simp only [K_3 hK, K_4 hK, P_3_0 hP, P_3_0 hP, qb_in, qkW, qmW, qnW, true_and, and_true, or_self, true_or, or_true, and_self]; done) | (simp only [K_3 hK, K_4 hK, P_3_0 hP, P_3_0 hP, qb_in, qkW, qmW, qnW, true_and, and_true, or_self, true_or, or_true, and_self]; omega)) only [zD_119, b119_0, b119_5, b119_17, b119_20, b119_30, b119_35, b119_40, b119_44, b119_49, b119_59, b119_64, b119_67, b119_72, b119_77, b119_80, b119_100, b119_106, b119_109, b119_119, b119_132, b119_149, b119_156, b119_174, b119_180, b119_195, qcall_l, qcall_r, qretn_l, qJ_s, qJ_n, qV0, qEx, ↓qif0, ↓zchk_pos, ↓reduceIte, qput, qWW, qmW, qkW, qnW, K_3 hK, K_4 hK, P_3_0 hP, P_3_0 hP, co, l1, f1, f2, if_neg (show ¬ g < 1 by omega), if_neg (show ¬ 3 < g by omega), if_neg (show ¬ p < 0 by omega), if_neg (show ¬ 4 < p by omega), if_neg s0, end2, Int.reduceEq]
  · rw [qnW, ← hS1, qnW, qal_n, qal_n, hN]
    omega
  · rw [qcW, ← hS1]
    rfl
  · rw [qwW, ← hS1]
    rfl
  · have oN : ∀ j, qu (qu (qu m' 4 1 0) (a + 1) K N) a 1 (K + 1) N j = m' N j := fun j => by rw [qu_o _ _ _ _ _ (by omega), qu_o _ _ _ _ _ (by omega), qu_o _ _ _ _ _ (by omega)]
    have oL : ∀ j, qu (qu (qu m' 4 1 0) (a + 1) K N) a 1 (K + 1) (N + 1) j = m' (N + 1) j := fun j => by rw [qu_o _ _ _ _ _ (by omega), qu_o _ _ _ _ _ (by omega), qu_o _ _ _ _ _ (by omega)]
    rw [qmW]
    refine ⟨?_, ?_, ?_, ?_, ?_, ?_, fun j j1 j2 => ?_⟩
    · rw [oN, u2 0 (by decide), v0]
    · rw [oN, u1]
    · rw [oN, u2 2 (by decide), v2]
    · rw [oN, u2 3 (by decide), v3]
    · rw [oN, u2 4 (by decide), v4]
    · rw [oN, u2 5 (by decide), v5]
    · rw [oL]
      exact u4 j j1 j2
