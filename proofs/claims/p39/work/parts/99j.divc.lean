/-! A divided word: what the class makes of it. -/
theorem s_divMade (e : Nat) (S : zS) (N n : Int) (t : Int → Int) (he : 4 ≤ e) (hK : qK S) (hP : qP (zm S)) (hT : qRT S) (hN : (zn S : Int) = N) (hN2 : 103 ≤ N) (p2 : zm S 37 2 = n) (p38 : zm S 38 = t) (ho : qdok t n) :
    ∃ T, zD (e + 1) 120 [vr 3] S = zF_120 e 36 [vr 3, vr N] [] T ∧ (zn T : Int) = N + 3 ∧ zc T = zc S + 3 ∧ zw T = zw S + 18 ∧ (∀ x, zk T x = if x = N + 2 then (0, 4) else if x = N + 1 then (0, 10) else if x = N then (25, 0) else zk S x) ∧ (∀ x, x < N → zm T x = zm S x) ∧
      (zm T N 0 = N + 1 ∧ zm T N 1 = qdvl t n.toNat ∧ zm T N 2 = N + 2 ∧ zm T N 3 = qcw t n.toNat) ∧ (∀ j, 0 ≤ j → j < qdvl t n.toNat → zm T (N + 1) j = qdvw t n.toNat j - 97) ∧ ∀ j, 0 ≤ j → j < qcw t n.toNat → zm T (N + 2) j = qdE t n j := by
  have isd := (s_isDivision e S n t he hK hP hT p2 p38).1 ho
  obtain ⟨t1, t2, t3, t4⟩ := hT
  have ci := s_divInit e (zalloc S 25 0 4) N (N + 1) (by omega) (qal_e _ _ _ _ hN.symm) (by omega) (by rw [qal_n, hN])
  generalize hS1 : qW (zalloc (zalloc (zalloc S 25 0 4) 0 10 10) 0 4 4) (qu (qz (qu (qz (zm (zalloc S 25 0 4)) (N + 1)) N 0 (N + 1)) (N + 1 + 1)) N 2 (N + 1 + 1)) = S1 at ci
  have k1 : ∀ x, zk S1 x = if x = N + 2 then (0, 4) else if x = N + 1 then (0, 10) else if x = N then (25, 0) else zk S x := fun x => by
    rw [← hS1, ← hN, show (zn S : Int) + 2 = (zn S : Int) + 1 + 1 by omega]
    rfl
  have e1 : zm S1 = qu (qz (qu (qz (qz (zm S) N) (N + 1)) N 0 (N + 1)) (N + 1 + 1)) N 2 (N + 1 + 1) := by rw [← hS1, ← hN]; rfl
  have lo : ∀ x, x < N → zm S1 x = zm S x := fun x hx => by
    rw [e1, qu_o _ _ _ _ _ (by omega), qz_o _ (by omega), qu_o _ _ _ _ _ (by omega), qz_o _ (by omega), qz_o _ (by omega)]
  have lk : ∀ x, x < N → zk S1 x = zk S x := fun x hx => by rw [k1, if_neg (by omega), if_neg (by omega), if_neg (by omega)]
  have kN : zk S1 N = (25, 0) := by rw [k1, if_neg (by omega), if_neg (by omega), if_pos rfl]
  have kL : zk S1 (N + 1) = (0, 10) := by rw [k1, if_neg (by omega), if_pos rfl]
  have kE : zk S1 (N + 2) = (0, 4) := by rw [k1, if_pos rfl]
  have v0 : zm S1 N 0 = N + 1 := by rw [e1, qu_i _ _ _ _ _ (by decide), qz_o _ (by omega), qu_s]
  have v1 : zm S1 N 1 = 0 := by rw [e1, qu_i _ _ _ _ _ (by decide), qz_o _ (by omega), qu_i _ _ _ _ _ (by decide), qz_o _ (by omega), qz_s]
  have v2 : zm S1 N 2 = N + 2 := by rw [e1, qu_s]; omega
  have v3 : zm S1 N 3 = 0 := by rw [e1, qu_i _ _ _ _ _ (by decide), qz_o _ (by omega), qu_i _ _ _ _ _ (by decide), qz_o _ (by omega), qz_s]
  have hK1 : qK S1 := qK_g hK (by omega) (fun x hx => lk x (by omega))
  have hP1 : qP (zm S1) := hP.same fun q hq => by
    rw [lo q.1 ?_]
    have : q.1 ≤ 102 := by
      revert q
      decide
    omega
  obtain ⟨m', r, u0, u1, u2, u3, u4, u5, u6⟩ := s_divide e S1 N n t (by omega) hK1 hP1 kN kL kE hN2 (by rw [lo 4 (by omega), t1, p2]) (by rw [lo 5 (by omega), ← p38, ← p2]; exact t3) (by omega) ho v0 v1 v2 v3
  have p30 : zm S1 3 0 = 4 := P_3_0 hP1
  refine ⟨qW S1 m', ?_, ?_, ?_, ?_, fun x => by rw [qkW]; exact k1 x, fun x hx => by rw [qmW, u4 x hx, lo x hx], ⟨u0, u1, u2, u3⟩, u5, u6⟩
  · simp (config := { maxSteps := 2000000 }) (disch := first | omega | (simp only [K_3 hK, K_4 hK, P_3_0 hP, P_3_0 hP, hN, p30, K_3 hK1, K_4 hK1, qb_in, qkW, qmW, qnW, true_and, and_true, or_self, true_or, or_true, and_self]; done) | (simp only [K_3 hK, K_4 hK, P_3_0 hP, P_3_0 hP, hN, p30, K_3 hK1, K_4 hK1, qb_in, qkW, qmW, qnW, true_and, and_true, or_self, true_or, or_true, and_self]; omega)) only [zD_120, b120_0, b120_7, b120_10, b120_20, b120_27, b120_45, b120_57, b120_60, b120_64, b120_67, b120_77, b120_93, qcall_l, qcall_r, qretn_l, qJ_s, qJ_n, qV0, qEx, ↓qif0, ↓zchk_pos, ↓reduceIte, qput, qWW, qmW, qkW, qnW, K_3 hK, K_4 hK, P_3_0 hP, P_3_0 hP, isd, hN, ci, p30, K_3 hK1, K_4 hK1, r, Int.reduceEq]
  · rw [qnW, ← hS1, qnW, qal_n, qal_n, qal_n, hN]
    omega
  · rw [qcW, ← hS1]
    rfl
  · rw [qwW, ← hS1]
    rfl
theorem qPw_0 {S : zS} (h : qRD S) (W : List Int) (h0 : qPw (zm S) W 0 = 0) : ∀ k, 0 ≤ k → k < zm S 37 12 → ¬ qMt W.length (zm S 47) (zm S 46) (fun j => qnth W j + 97) k := fun k k1 k2 hMk => by
  obtain ⟨r1, r2, r3, r4⟩ := h
  obtain ⟨zb, zv, z8, z9, z10⟩ := r3 k k1 k2
  have e0 : qPw (zm S) W 0 = zm S 48 k := qfp_y _ _ (by omega) _ _ _ _ k k2 hMk (fun i i1 i2 w => r4 k i k1 i1 i2 ⟨by rw [hMk.1, w.1], fun j j1 j2 => by rw [hMk.2 j j1 (by have := hMk.1; omega), w.2 j j1 (by have := hMk.1; omega)]⟩) _ 0 0 (by omega) (by omega)
  obtain ⟨-, -, -, y4, y5, -⟩ := zv
  have := (y5 0 (by omega) (by omega)).2.2
  rw [← e0, h0, qbt_0] at this
  exact absurd this (by decide)
/-- all that is kept of the tape, codes, divided words, books when a state has only grown -/
theorem qgrown {S T : zS} {N : Int} (hN : (zn S : Int) = N) (hN2 : 103 ≤ N) (hle : N ≤ zn T) (lk : ∀ x, x < N → zk T x = zk S x) (lo : ∀ x, x < N → zm T x = zm S x) (hK : qK S) (hP : qP (zm S)) (hT : qRT S) (hC : qRC S) (hR : qRD S) (hB : qBh S) : qKp S T ∧ qK T ∧ qP (zm T) ∧ qRT T ∧ qRC T ∧ qRD T ∧ qBh T := by
  have g : qKp S T := ⟨by omega, fun x hx => lk x (by omega)⟩
  have hb := hR.2.2.1
  refine ⟨g, qK_g hK (by omega) (fun x hx => lk x (by omega)), hP.same fun q hq => ?_, qRT_w hT (by rw [lo 4 (by omega)]) (lo 5 (by omega)) (by rw [lo 37 (by omega)]) (lo 38 (by omega)), qRC_w hC g (by rw [lo 3 (by omega)]) (by rw [lo 37 (by omega)]) (lo 6 (by omega)) (fun x x1 x2 => lo x (by omega)) (fun x x1 x2 _ => lo x (by omega)) (fun x x1 x2 _ => by rw [lo x (by omega)]), qRD_w hR g (by rw [lo 3 (by omega)]) (by rw [lo 37 (by omega)]) (lo 7 (by omega)) (lo 46 (by omega)) (lo 47 (by omega)) (lo 48 (by omega)) (fun i i1 i2 x x1 x2 => lo x ?_), qBh_w hB g (by rw [lo 3 (by omega)]) (by rw [lo 37 (by omega)]) (lo 8 (by omega)) (lo 49 (by omega)) (lo 54 (by omega)) (by rw [lo 37 (by omega)]; exact Int.le_refl _) (fun c _ _ => by rw [lo 6 (by omega)]) (fun x x1 x2 _ => by rw [lo x (by omega)]; exact ⟨rfl, rfl⟩)⟩
  · rw [lo q.1 ?_]
    have : q.1 ≤ 102 := by
      revert q
      decide
    omega
  · obtain ⟨-, -, -, -, -, b1, b2⟩ := (hb i i1 i2).1
    omega
/-- the class refuses a divided word once it is made -/
theorem s_divBad (e : Nat) (T : zS) (N L : Int) (W : List Int) (he : 3 ≤ e) (hK : qK T) (hP : qP (zm T)) (hR : qRD T) (hB : qBh T) (kN : zk T N = (25, 0)) (kL : zk T (N + 1) = (0, 10)) (v0 : zm T N 0 = N + 1) (v1 : zm T N 1 = L) (hA : qA (zm T) (N + 1) W) (hW : 0 < W.length ∧ W.length ≤ 10) (hWL : (W.length : Int) = L)
    (hc : zm T 37 12 = 12 ∨ ¬ qPw (zm T) W 0 = 0 ∨ qhwf (zm T) (-1) (zm T 37 16).toNat = 1) : zF_120 e 36 [vr 3, vr N] [] T = some (.inr 1, zbump T) := by
  obtain ⟨D, r, -, -, -, eD⟩ := s_divisionOf e T (N + 1) W (by omega) hK hP hR kL hA hW
  rw [hWL] at r
  have h12 := hR.2.1
  have e34 := hR.1
  rw [b120_36]
  by_cases c1 : zm T 37 12 = 12
  · simp (config := { maxSteps := 2000000 }) (disch := first | omega | (simp only [K_3 hK, qb_in, qkW, qmW, qnW, true_and, and_true, or_self, true_or, or_true, and_self]; done) | (simp only [K_3 hK, qb_in, qkW, qmW, qnW, true_and, and_true, or_self, true_or, or_true, and_self]; omega)) only [b120_0, b120_7, b120_10, b120_20, b120_27, b120_36, b120_45, b120_57, b120_60, b120_64, b120_67, b120_77, b120_93, qcall_l, qcall_r, qretn_l, qJ_s, qJ_n, qV0, qEx, ↓qif0, ↓zchk_pos, ↓reduceIte, qput, qWW, qmW, qkW, qnW, K_3 hK, e34, if_neg (show ¬ zm T 37 12 < 12 by omega)]
  · by_cases c2 : D = 0
    · have c3 := (hc.resolve_left c1).resolve_left fun z => z (eD.mp c2)
      have hw := s_hasWordsAtAll e T (by omega) hK hP hB
      rw [c3] at hw
      simp (config := { maxSteps := 2000000 }) (disch := first | omega | (simp only [K_3 hK, kN, qb_in, qkW, qmW, qnW, true_and, and_true, or_self, true_or, or_true, and_self]; done) | (simp only [K_3 hK, kN, qb_in, qkW, qmW, qnW, true_and, and_true, or_self, true_or, or_true, and_self]; omega)) only [b120_0, b120_7, b120_10, b120_20, b120_27, b120_36, b120_45, b120_57, b120_60, b120_64, b120_67, b120_77, b120_93, qcall_l, qcall_r, qretn_l, qJ_s, qJ_n, qV0, qEx, ↓qif0, ↓zchk_pos, ↓reduceIte, qput, qWW, qmW, qkW, qnW, K_3 hK, e34, if_pos (show zm T 37 12 < 12 by omega), kN, v0, v1, r, if_pos c2, hw, Int.reduceEq]
    · simp (config := { maxSteps := 2000000 }) (disch := first | omega | (simp only [K_3 hK, kN, qb_in, qkW, qmW, qnW, true_and, and_true, or_self, true_or, or_true, and_self]; done) | (simp only [K_3 hK, kN, qb_in, qkW, qmW, qnW, true_and, and_true, or_self, true_or, or_true, and_self]; omega)) only [b120_0, b120_7, b120_10, b120_20, b120_27, b120_36, b120_45, b120_57, b120_60, b120_64, b120_67, b120_77, b120_93, qcall_l, qcall_r, qretn_l, qJ_s, qJ_n, qV0, qEx, ↓qif0, ↓zchk_pos, ↓reduceIte, qput, qWW, qmW, qkW, qnW, K_3 hK, e34, if_pos (show zm T 37 12 < 12 by omega), kN, v0, v1, r, if_neg c2, Int.reduceEq]
theorem s_divGood (e : Nat) (T : zS) (N L K : Int) (W : List Int) (he : 3 ≤ e) (hK : qK T) (hP : qP (zm T)) (hR : qRD T) (hB : qBh T) (hN : 103 ≤ N) (kN : zk T N = (25, 0)) (kL : zk T (N + 1) = (0, 10)) (v0 : zm T N 0 = N + 1) (v1 : zm T N 1 = L) (hA : qA (zm T) (N + 1) W) (hW : 0 < W.length ∧ W.length ≤ 10) (hWL : (W.length : Int) = L) (p12 : zm T 37 12 = K) (hk : 0 ≤ K ∧ K < 12)
    (c2 : qPw (zm T) W 0 = 0) (c3 : qhwf (zm T) (-1) (zm T 37 16).toNat = 0) : zF_120 e 36 [vr 3, vr N] [] T = some (.inl (some (vi L)), qW T (qu (qu (qu (zm T) 7 K N) 3 4 (K + 1)) 4 1 0)) := by
  obtain ⟨D, r, -, -, -, eD⟩ := s_divisionOf e T (N + 1) W (by omega) hK hP hR kL hA hW
  rw [hWL] at r
  have c2 : D = 0 := eD.mpr c2
  have e34 : zm T 3 4 = K := by rw [← p12]; exact hR.1
  have hw := s_hasWordsAtAll e T (by omega) hK hP hB
  rw [c3] at hw
  have f3 : qu (zm T) 7 K N 3 = zm T 3 := qu_o _ _ _ _ _ (by decide)
  have g3 : ∀ j, j ≠ 4 → qu (qu (zm T) 7 K N) 3 4 (K + 1) 3 j = zm T 3 j := fun j hj => by rw [qu_i _ _ _ _ _ hj, f3]
  have g30 := g3 0 (by decide)
  rw [P_3_0 hP] at g30
  have gN : qu (qu (qu (zm T) 7 K N) 3 4 (K + 1)) 4 1 0 N 1 = L := by rw [qu_o _ _ _ _ _ (by omega), qu_o _ _ _ _ _ (by omega), qu_o _ _ _ _ _ (by omega), v1]
  rw [b120_36]
  simp (config := { maxSteps := 2000000 }) (disch := first | omega | (simp only [K_3 hK, K_7 hK, P_3_3 hP, K_4 hK, P_3_0 hP, K_3 hK, K_4 hK, K_7 hK, kN, P_3_3 hP, e34, f3, g30, qb_in, qkW, qmW, qnW, true_and, and_true, or_self, true_or, or_true, and_self]; done) | (simp only [K_3 hK, K_7 hK, P_3_3 hP, K_4 hK, P_3_0 hP, K_3 hK, K_4 hK, K_7 hK, kN, P_3_3 hP, e34, f3, g30, qb_in, qkW, qmW, qnW, true_and, and_true, or_self, true_or, or_true, and_self]; omega)) only [b120_0, b120_7, b120_10, b120_20, b120_27, b120_36, b120_45, b120_57, b120_60, b120_64, b120_67, b120_77, b120_93, qcall_l, qcall_r, qretn_l, qJ_s, qJ_n, qV0, qEx, ↓qif0, ↓zchk_pos, ↓reduceIte, qput, qWW, qmW, qkW, qnW, K_3 hK, K_7 hK, P_3_3 hP, K_4 hK, P_3_0 hP, K_3 hK, K_4 hK, K_7 hK, P_3_3 hP, e34, if_pos hk.2, kN, v0, v1, r, if_pos c2, hw, f3, g30, gN, q32, Int.reduceEq]
