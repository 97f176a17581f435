/-! A code, a contraction, a divided word are made: what books rest on stays. -/
theorem q_codeH (d : Nat) (S : zS) (h : 5 ≤ d) (hK : qK S) (hP : qP (zm S)) (hC : qRC S) (hn : 103 ≤ (zn S : Int)) :
    qAskN (fun S2 => (zm S2 37 4 = zm S 37 4 + 1 ∧ ∀ i, 0 ≤ i → i < zm S 37 4 → zm S2 6 i = zm S 6 i) ∧ qRC S2 ∧ qGw S S2 5 5 61 fun x j => x = 102 ∨ x = 3 ∧ j = 2 ∨ x = 6 ∨ x = 37 ∧ (j = 0 ∨ j = 4)) (fun S2 => ∃ m2, S2 = zbump (qW S m2) ∧ qFq S m2) S (zD d 118 [vr 3] S) (zD d 208 [vr 37]) qpsK := by
  obtain ⟨e, rfl, h1⟩ := qd h
  have hCy : ∀ i, 0 ≤ i → i < zm S 37 4 → qCy S (zm S 6 i) (zm S 39 i) (qTm (zm S) i) := hC.2.2.1
  obtain ⟨r1, r2, r3, r4, r5⟩ := hC
  by_cases c3 : zm S 37 4 < 3
  · -- one more
    obtain ⟨S', r, n1, z1, w1, k1, m1⟩ := s_codeInit e (zalloc S 22 0 4) (zn S) (zn S + 1) (by omega) (qal_e _ _ _ _ rfl) (by omega) (qal_n _ _ _ _)
    generalize hN : (zn S : Int) = N at *
    generalize hc : zm S 37 4 = c at *
    have hm : ∀ x, x < N → zm S' x = zm S x := fun x hx => by
      rw [m1, qu_o _ _ _ _ _ (by omega), qu_o _ _ _ _ _ (by omega), qz_o _ (by omega), qz_o _ (by omega), qu_o _ _ _ _ _ (by omega), qz_o _ (by omega), qu_o _ _ _ _ _ (by omega), qz_o _ (by omega), qal_m, qz_o _ (by omega)]
    have hk : ∀ x, x < N → zk S' x = zk S x := fun x hx => by
      rw [k1, if_neg (by omega), if_neg (by omega), if_neg (by omega), if_neg (by omega), qal_o _ _ _ _ (by omega)]
    have hkN : zk S' N = (22, 0) := by
      rw [k1, if_neg (by omega), if_neg (by omega), if_neg (by omega), if_neg (by omega), qal_e _ _ _ _ hN.symm]
    have hK' : qK S' := qK_g hK (by omega) (by rw [hN]; exact hk)
    have e3 : zm S' 3 = zm S 3 := hm 3 (by omega)
    have e31 : zm S' 3 1 = 6 := by rw [e3]; exact P_3_1 hP
    have e32 : zm S' 3 2 = c := by rw [e3]; exact r1
    have x3 : qu (zm S') 6 c N 3 = zm S' 3 := qu_o _ _ _ _ _ (by decide)
    have s32 : qu (qu (zm S') 6 c N) 3 2 (c + 1) 3 2 = c + 1 := qu_s _ _ _ _
    have cls : zD (e + 1) 118 [vr 3] S = some (.inl (some (vi c)), qW S' (qu (qu (zm S') 6 c N) 3 2 (c + 1))) := by
      simp (config := { maxSteps := 2000000 }) (disch := first | omega | (simp only [K_3 hK, K_3 hK', K_6 hK', hN, hkN, e31, e32, x3, qb_in, qkW, qmW, qnW, true_and, and_true, or_self, true_or, or_true, and_self]; done) | (simp only [K_3 hK, K_3 hK', K_6 hK', hN, hkN, e31, e32, x3, qb_in, qkW, qmW, qnW, true_and, and_true, or_self, true_or, or_true, and_self]; omega)) only [zD_118, b118_0, b118_8, b118_18, b118_33, b118_49, qcall_l, qcall_r, qretn_l, qJ_s, qJ_n, qV0, qEx, ↓qif0, ↓zchk_pos, ↓reduceIte, qput, qWW, qmW, qkW, qnW, K_3 hK, K_6 hK', P_3_1 hP, r1, if_pos c3, r, hN, e31, e32, x3, s32, hkN, q32, show c + 1 - 1 = c by omega]
    generalize hM : qu (qu (zm S') 6 c N) 3 2 (c + 1) = M at cls
    refine Or.inl ⟨c, qW S' M, cls, ⟨by show M 1 = _; rw [← hM, qu_o _ _ _ _ _ (by decide), qu_o _ _ _ _ _ (by decide), hm 1 (by omega)], fun x hx => by rw [qkW]; exact hk x (by omega)⟩, fun o => ?_⟩
    obtain ⟨M9, hM9⟩ : ∃ M9, qu M 102 0 o = M9 := ⟨_, rfl⟩
    have hq9 : qo (qW S' M) o = qW S' M9 := by rw [← hM9]; rfl
    rw [hq9]
    have g9 : ∀ x, x ≠ 102 → M9 x = M x := fun x hx => by rw [← hM9, qu_o _ _ _ _ _ hx]
    have hMo : ∀ x, x ≠ 3 → x ≠ 6 ∧ x ≠ 102 → M9 x = zm S' x := fun x x1 x2 => by rw [g9 x x2.2, ← hM, qu_o _ _ _ _ _ x1, qu_o _ _ _ _ _ x2.1]
    have M37 : M9 37 = zm S 37 := by rw [hMo 37 (by decide) (by decide), hm 37 (by omega)]
    have hd := r_holds e (qW S' M9) 0 (by omega) hK'
    rw [qb_p rfl] at hd
    have hd : zD e 182 [vr 37, vi 0] (qW S' M9) = some (.inl (some (vi 1)), qW S' (qu M9 37 0 0)) := hd
    have M374 : M9 37 4 = c := by rw [M37, hc]
    have q374 : qu M9 37 0 0 37 4 = c := by rw [qu_i _ _ _ _ _ (by decide), M374]
    have ref : zD (e + 1) 208 [vr 37] (qW S' M9) = some (.inl (some (vi c)), qW S' (qu (qu M9 37 0 0) 37 4 (c + 1))) := by
      simp (config := { maxSteps := 2000000 }) (disch := first | omega | (simp only [K_37 hK', M374, q374, qb_in, qkW, qmW, qnW, true_and, and_true, or_self, true_or, or_true, and_self]; done) | (simp only [K_37 hK', M374, q374, qb_in, qkW, qmW, qnW, true_and, and_true, or_self, true_or, or_true, and_self]; omega)) only [zD_208, b208_0, b208_9, b208_13, b208_14, b208_17, b208_20, b208_22, b208_38, qcall_l, qcall_r, qretn_l, qJ_s, qJ_n, qV0, qEx, ↓qif0, ↓zchk_pos, ↓reduceIte, qput, qWW, qmW, qkW, qnW, K_37 hK', M374, if_neg (show ¬ c = 3 by omega), hd, q374, qu_s, q32, Int.reduceEq, show c + 1 - 1 = c by omega]
    generalize hm2 : qu (qu M9 37 0 0) 37 4 (c + 1) = m2 at ref
    have f37 : ∀ j, j ≠ 0 → j ≠ 4 → m2 37 j = zm S 37 j := fun j j0 j4 => by rw [← hm2, qu_i _ _ _ _ _ j4, qu_i _ _ _ _ _ j0, M37]
    have fo : ∀ x, x ≠ 37 → m2 x = M9 x := fun x x1 => by rw [← hm2, qu_o _ _ _ _ _ x1, qu_o _ _ _ _ _ x1]
    have fz : ∀ x, x < N → x ≠ 3 → x ≠ 6 ∧ x ≠ 102 → x ≠ 37 → m2 x = zm S x := fun x x0 x3 x6 x37 => by rw [fo x x37, hMo x x3 x6, hm x x0]
    have fz' : ∀ x, x ≠ 3 → x ≠ 6 ∧ x ≠ 102 → x ≠ 37 → m2 x = zm S' x := fun x x3 x6 x37 => by rw [fo x x37, hMo x x3 x6]
    have g374 : m2 37 4 = c + 1 := by rw [← hm2, qu_s]
    have g370 : m2 37 0 = 0 := by rw [← hm2, qu_i _ _ _ _ _ (by decide), qu_s]
    have g32 : m2 3 2 = c + 1 := by rw [fo 3 (by decide), g9 3 (by decide), ← hM, qu_s]
    have g6 : ∀ i, m2 6 i = if i = c then N else zm S 6 i := fun i => by
      rw [fo 6 (by decide), g9 6 (by decide), ← hM, qu_o _ _ _ _ _ (by decide), qu_row, hm 6 (by omega)]
    have g39 : m2 39 = zm S 39 := fz 39 (by omega) (by decide) (by decide) (by decide)
    have gT : ∀ i, qTm m2 i = qTm (zm S) i := fun i => qTm_e (fun x x1 x2 => fz x (by omega) (by omega) (by omega) (by omega)) i
    have gr : qGr S (qW S' m2) := ⟨by show zn S ≤ zn S'; omega, fun x hx => by rw [qkW]; exact hk x (by omega), fun x x1 x2 => by rw [qmW]; exact fz x (by omega) (by omega) (by omega) (by omega)⟩
    have hd0 : ∀ i, 0 ≤ i → i < c → zm S 6 i + 5 ≤ N ∧ 103 ≤ zm S 6 i := fun i i1 i2 => by
      obtain ⟨-, -, -, -, -, -, -, -, -, b1, b2⟩ := (r3 i i1 i2).1
      omega
    refine ⟨qW S' m2, ref, g370, by show m2 102 0 = o; rw [fo 102 (by decide), ← hM9, qu_s], ⟨g374, fun i i1 i2 => by show m2 6 i = _; rw [g6, if_neg (by omega)]⟩, ⟨?_, ?_, fun i i1 i2 => ?_, fun i k i1 i2 k2 => ?_, fun i i1 i2 => ?_⟩, ?_, ?_, ?_, fun x hx => ?_, fun x j hx he => ?_⟩
    · show m2 3 2 = m2 37 4
      rw [g32, g374]
    · show 0 ≤ m2 37 4 ∧ m2 37 4 ≤ 3
      omega
    · have i2 : i < m2 37 4 := i2
      show qCy (qW S' m2) (m2 6 i) (m2 39 i) (qTm m2 i)
      rw [g6, g39, gT]
      by_cases q : i = c
      · have z39 : zm S 39 i = 0 := r5 i (by omega) (by omega)
        rw [if_pos q, z39]
        have mN : m2 N = zm S' N := fz' N (by omega) (by omega) (by omega)
        refine ⟨⟨hkN, ?_, ?_, ?_, ?_, ?_, ?_, ?_, ?_, hn, ?_⟩, ⟨hkN, ?_, ?_, by decide, fun k k1 k2 => by omega⟩, fun k k1 k2 => by omega, fun k k1 k2 => by omega⟩
        · show zk S' (N + 1) = _
          rw [k1, if_neg (by omega), if_neg (by omega), if_neg (by omega), if_pos rfl]
        · show zk S' (N + 2) = _
          rw [k1, if_neg (by omega), if_neg (by omega), if_pos (by omega)]
        · show zk S' (N + 3) = _
          rw [k1, if_neg (by omega), if_pos (by omega)]
        · show zk S' (N + 4) = _
          rw [k1, if_pos (by omega)]
        · show m2 N 0 = _
          rw [mN, m1]
          rw [qu_i _ _ _ _ _ (by decide), qu_o _ _ _ _ _ (by omega), qz_o _ (by omega), qz_o _ (by omega), qu_i _ _ _ _ _ (by decide), qz_o _ (by omega), qu_s]
        · show m2 N 2 = _
          rw [mN, m1]
          rw [qu_i _ _ _ _ _ (by decide), qu_o _ _ _ _ _ (by omega), qz_o _ (by omega), qz_o _ (by omega), qu_s]
          omega
        · show m2 N 3 = _
          rw [mN, m1]
          rw [qu_s]
          omega
        · show m2 (N + 3) 0 = _
          rw [fz' (N + 3) (by omega) (by omega) (by omega), m1, show N + 3 = N + 1 + 2 by omega, qu_o _ _ _ _ _ (by omega), qu_s]
          omega
        · show N + 5 ≤ (zn S' : Int)
          omega
        · show zk S' (m2 N 0) = _
          have e0 : m2 N 0 = N + 1 := by
            rw [mN, m1]
            rw [qu_i _ _ _ _ _ (by decide), qu_o _ _ _ _ _ (by omega), qz_o _ (by omega), qz_o _ (by omega), qu_i _ _ _ _ _ (by decide), qz_o _ (by omega), qu_s]
          rw [e0, k1, if_neg (by omega), if_neg (by omega), if_neg (by omega), if_pos rfl]
        · show m2 N 1 = 0
          rw [mN, m1]
          rw [qu_i _ _ _ _ _ (by decide), qu_o _ _ _ _ _ (by omega), qz_o _ (by omega), qz_o _ (by omega), qu_i _ _ _ _ _ (by decide), qz_o _ (by omega), qu_i _ _ _ _ _ (by decide), qz_o _ (by omega), qal_m, hN, qz_s]
      · rw [if_neg q]
        exact qCy_g (hCy i i1 (by omega)) gr
    · have k2 : k < m2 37 4 := k2
      show m2 6 i ≠ m2 6 k
      rw [g6, g6]
      by_cases q : k = c
      · rw [if_pos q, if_neg (by omega)]
        have := hd0 i i1 (by omega)
        omega
      · rw [if_neg q, if_neg (by omega)]
        exact r4 i k i1 i2 (by omega)
    · have i1 : m2 37 4 ≤ i := i1
      show m2 39 i = 0
      rw [g39]
      exact r5 i (by omega) i2
    · show (zn S' : Int) = (zn S : Int) + (5 : Nat)
      omega
    · show zc S' = zc S + 5
      rw [z1]
      rfl
    · show zw S' = zw S + 61
      rw [w1]
      rfl
    · rw [qkW]
      exact hk x (by omega)
    · show m2 x j = zm S x j
      by_cases c37 : x = 37
      · subst c37
        exact f37 j (by omega) (by omega)
      · by_cases c33 : x = 3
        · subst c33
          rw [fo 3 (by decide), g9 3 (by decide), ← hM, qu_i _ _ _ _ _ (by omega), x3, e3]
        · rw [fz x (by omega) c33 (by omega) c37]
  · have hd := r_holds e (zbump S) 1 (by omega) hK
    rw [qb_n (by decide)] at hd
    have hKb : qK (zbump S) := hK
    have g4 : zm (zbump S) 37 4 = zm S 37 4 := rfl
    refine Or.inr ⟨1, 0, zbump S, zbump (qW S (qu (zm S) 37 0 1)), ?_, ⟨rfl, fun _ _ => rfl⟩, ?_, by show qu (zm S) 37 0 1 37 0 = 1; exact qu_s _ _ _ _, by decide, _, rfl, qFq_37x (qFq_r S) (qfr_j (A := []) (J := [0]) _ _ _ (by decide)) (by decide) (by decide)⟩
    · simp (config := { maxSteps := 2000000 }) (disch := first | omega | (simp only [K_3 hK, qb_in, qkW, qmW, qnW, true_and, and_true, or_self, true_or, or_true, and_self]; done) | (simp only [K_3 hK, qb_in, qkW, qmW, qnW, true_and, and_true, or_self, true_or, or_true, and_self]; omega)) only [zD_118, b118_0, b118_8, b118_18, b118_33, b118_49, qcall_l, qcall_r, qretn_l, qJ_s, qJ_n, qV0, qEx, ↓qif0, ↓zchk_pos, ↓reduceIte, qput, qWW, qmW, qkW, qnW, K_3 hK, r1, if_neg c3]
    · simp (config := { maxSteps := 2000000 }) (disch := first | omega | (simp only [K_37 hKb, g4, qb_in, qkW, qmW, qnW, true_and, and_true, or_self, true_or, or_true, and_self]; done) | (simp only [K_37 hKb, g4, qb_in, qkW, qmW, qnW, true_and, and_true, or_self, true_or, or_true, and_self]; omega)) only [zD_208, b208_0, b208_9, b208_13, b208_14, b208_17, b208_20, b208_22, b208_38, qcall_l, qcall_r, qretn_l, qJ_s, qJ_n, qV0, qEx, ↓qif0, ↓zchk_pos, ↓reduceIte, qput, qWW, qmW, qkW, qnW, K_37 hKb, g4, if_pos (show zm S 37 4 = 3 by omega), hd, Int.reduceEq]
      rfl
theorem qMc_c {S S9 : zS} {M : Int → Int → Int} {c g p f s n K A : Int} {t : Int → Int} (hM : qMc S S9 M c g p f s n K A t) (hA : 24 * c + K = A) (hK : 0 ≤ K ∧ K < 24) {c' N : Int} {T : Int → Int → Int} (hc : c' ≠ c) (h : qRc (zm S) c' N T) (tk : qTok T N) : qRc M c' N T := by
  obtain ⟨h1, h2, h3, h4⟩ := h
  obtain ⟨-, -, g1, g2, -⟩ := hM
  refine ⟨h1, by rw [g1, if_neg hc]; exact h2, h3, fun k k1 k2 => ?_⟩
  obtain ⟨e1, e2, e3, e4, e5, e6⟩ := h4 k k1 k2
  have e := fun i i1 i2 => g2 c' i k i1 i2 (by omega)
  have q0 : M 41 (24 * c' + k) = zm S 41 (24 * c' + k) := e 0 (by decide) (by decide)
  have q1 : M 44 (24 * c' + k) = zm S 44 (24 * c' + k) := e 1 (by decide) (by decide)
  have q2 : M 45 (24 * c' + k) = zm S 45 (24 * c' + k) := e 2 (by decide) (by decide)
  have q3 : M 42 (24 * c' + k) = zm S 42 (24 * c' + k) := e 3 (by decide) (by decide)
  have q4 : M 43 (24 * c' + k) = zm S 43 (24 * c' + k) := e 4 (by decide) (by decide)
  refine ⟨by rw [q0]; exact e1, by rw [q1]; exact e2, by rw [q2]; exact e3, by rw [q3]; exact e4, by rw [q4]; exact e5, fun j j1 j2 => ?_⟩
  rw [← e6 j j1 j2]
  by_cases c6 : j < 6
  · have q5 := e (5 + j) (by omega) (by omega)
    unfold qTm at q5
    rw [if_neg (by omega), if_neg (by omega), if_neg (by omega), if_neg (by omega), if_neg (by omega), if_neg (by omega), if_neg (by omega), if_neg (by omega), if_neg (by omega), if_neg (by omega), show 5 + j - 5 = j by omega] at q5
    omega
  · exact absurd j2 (by have := (tk k k1 k2).1.2; omega)
theorem q_contrH (d : Nat) (S : zS) (c g p f s : Int) (h : 8 ≤ d) (hK : qK S) (hP : qP (zm S)) (hT : qRT S) (hC : qRC S) (hB : qBh S) (hn : 103 ≤ (zn S : Int)) :
    qAskN (fun S2 => ((∀ c' N T, c' ≠ c → qTok T N → qRc (zm S) c' N T → qRc (zm S2) c' N T) ∧ qhwf (zm S) c (zm S 37 16).toNat = 0) ∧ qRC S2 ∧ qRT S2 ∧ qGw S S2 2 2 12 fun x j => x = 102 ∨ x = 4 ∧ j = 1 ∨ 39 ≤ x ∧ x ≤ 45 ∨ x = 37 ∧ (j = 0 ∨ j = 2) ∨ 103 ≤ x ∧ (zk S x = (22, 0) ∨ zk S x = (12, 24))) (fun S2 => ∃ m2, S2 = zbump (qW S m2) ∧ qFq S m2) S (zD d 119 [vr 3, vi c, vi g, vi p, vi f, vi s] S) (zD d 211 [vr 37, vi c, vi g, vi p, vi f, vi s]) qps3 := by
  by_cases hb : (0 ≤ c ∧ c < zm S 37 4) ∧ (qcok0 (zm S 37 2) g p f s ∧ qslt (zm S 38) (zm S 37 2)) ∧ ¬ zm S 39 c = 24 ∧ qhwf (zm S) c (zm S 37 16).toNat = 0
  · obtain ⟨h1, h2, h3, h4⟩ := hb
    obtain ⟨e, rfl, he⟩ := qd h
    have cy := fun i i1 i2 => qRC_1 hC (c := i) i1 i2
    have cN := fun i i1 i2 => (cy i i1 i2).2.1.2.2.2.1
    have hK2 := cN c h1.1 h1.2
    obtain ⟨S1, r1, n1, z1, w1, k1, v, m', e1, lo⟩ := s_contrGood e S c g p f s (zm S 37 2) (zm S 39 c) (zn S) (zm S 6 c) (zm S 38) (by omega) hK hP hT hC hB rfl hn rfl rfl h1 h2 rfl (by omega) h4 rfl
    generalize hN : (zn S : Int) = N at n1 k1 v e1 lo
    generalize hKK : zm S 39 c = K at *
    generalize hn2 : zm S 37 2 = n at *
    generalize ht2 : zm S 38 = t at *
    generalize ha : zm S 6 c = a at *
    have ca : 103 ≤ a ∧ a + 5 ≤ N := by
      obtain ⟨-, -, -, -, -, -, -, -, -, q1, q2⟩ := (cy c h1.1 h1.2).1
      rw [ha] at q1 q2
      omega
    refine Or.inl ⟨K, S1, r1, ⟨by rw [e1, qu_o _ _ _ _ _ (by omega), qu_o _ _ _ _ _ (by omega), qu_o _ _ _ _ _ (by omega), lo 1 (by omega)], fun x hx => by rw [k1, if_neg (by omega), if_neg (by omega)]⟩, fun o => ?_⟩
    obtain ⟨S9, h9, n9, c9, w9, k9, m9, o9⟩ := qo_ex S1 o
    rw [h9]
    have n1 : (zn S9 : Int) = N + 2 := by rw [n9]; exact n1
    have z1 : zc S9 = zc S + 2 := by rw [c9]; exact z1
    have w1 : zw S9 = zw S + 12 := by rw [w9]; exact w1
    have e1 : ∀ x, x ≠ 102 → zm S9 x = qu (qu (qu m' 4 1 0) (a + 1) K N) a 1 (K + 1) x := fun x hx => by rw [m9 x hx, e1]
    have l1 : ∀ x, x < N ∧ x ≠ 102 → x ≠ 4 → x ≠ a → x ≠ a + 1 → zm S9 x = zm S x := fun x x1 x2 x3 x4 => by rw [e1 x x1.2, qu_o _ _ _ _ _ x3, qu_o _ _ _ _ _ x4, qu_o _ _ _ _ _ x2, lo x x1.1]
    have lk : ∀ x, x < N → zk S9 x = zk S x := fun x hx => by rw [k9, k1, if_neg (by omega), if_neg (by omega)]
    have hK1 : qK S9 := qK_g hK hn (by rw [hN]; exact lk)
    have s37 : zm S9 37 = zm S 37 := l1 37 (by omega) (by decide) (by omega) (by omega)
    have s38 : zm S9 38 = t := by rw [l1 38 (by omega) (by decide) (by omega) (by omega), ht2]
    have s39 : zm S9 39 = zm S 39 := l1 39 (by omega) (by decide) (by omega) (by omega)
    have s41 : zm S9 4 1 = 0 := by rw [e1 4 (by decide), qu_o _ _ _ _ _ (by omega), qu_o _ _ _ _ _ (by omega), qu_s]
    have s4 : ∀ j, j ≠ 1 → zm S9 4 j = zm S 4 j := fun j hj => by rw [e1 4 (by decide), qu_o _ _ _ _ _ (by omega), qu_o _ _ _ _ _ (by omega), qu_i _ _ _ _ _ hj, lo 4 (by omega)]
    have hP1 : qP (zm S9) := hP.same fun q hq => by
      have n4 : (q.1 ≤ 102 ∧ q.1 ≠ 102) ∧ ¬ (q.1 = 4 ∧ q.2.1 = 1) := by
        revert q
        decide
      by_cases c4 : q.1 = 4
      · rw [c4]
        exact s4 _ fun z => n4.2 ⟨c4, z⟩
      · rw [l1 q.1 (by omega) c4 (by omega) (by omega)]
    have hw1 : qhwf (zm S9) c (zm S9 37 16).toNat = 0 := by
      rw [s37, qhwf_e (l1 54 (by omega) (by decide) (by omega) (by omega)) (l1 49 (by omega) (by decide) (by omega) (by omega))]
      exact h4
    have t2 := hT.2.1
    rw [hn2] at t2
    obtain ⟨mr, r2, f1, f2⟩ := r_contrGood e S9 c g p f s n K t (by omega) hK1 hP1 (by omega) (by rw [s37]; exact hC.2.1) (by rw [s37]; exact hB.2.1) (by rw [s37]; exact hn2) s38 (by
      have := hT.2.2.2
      rw [ht2, hn2] at this
      exact this) (by rw [s37]; exact h1) h2 (by rw [s39]; exact hKK) (by omega) hw1
    generalize hA : 24 * c + K = A at *
    have hM := q_contrM S S9 mr c g p f s n K A t h2.1.1 hA s37 (fun x x1 x2 => l1 x (by omega) (by omega) (by omega) (by omega)) f1 f2
    generalize hM2 : qu (qu (qu (qu (qu (qu (qu mr 37 2 0) 41 A n) 44 A g) 45 A p) 42 A f) 43 A s) 39 c (K + 1) = M at r2 hM
    refine ⟨qW S9 M, r2, hM.2.1.2.1, by show M 102 0 = o; rw [hM.1 102 (by decide) (by decide), o9], ?_⟩
    obtain ⟨v0, v1, v2, v3, v4, v5, v6⟩ := v
    have x0 : zm S9 N = zm S1 N := m9 N (by omega)
    refine ⟨⟨fun c' N T hc tk hr => qMc_c hM hA (by omega) hc hr tk, h4⟩, ?_⟩
    exact q_contrK S S9 M c g p f s n K N a A t hC hT (by omega) hN n1 z1 w1 (fun x => by rw [k9, k1]) (by exact h1) h2 hKK (by omega) ha hA ⟨by rw [x0]; exact v0, by rw [x0]; exact v1, by rw [x0]; exact v2, by rw [x0]; exact v3, by rw [x0]; exact v4, by rw [x0]; exact v5, fun j j1 j2 => by rw [m9 (N + 1) (by omega)]; exact v6 j j1 j2⟩ l1 s41 s4
      (fun j hj => by rw [e1 a (by omega), qu_i _ _ _ _ _ hj, qu_o _ _ _ _ _ (by omega), qu_o _ _ _ _ _ (by omega), lo a (by omega)]) (by rw [e1 a (by omega), qu_s])
      (fun j hj => by rw [e1 (a + 1) (by omega), qu_o _ _ _ _ _ (by omega), qu_i _ _ _ _ _ hj, qu_o _ _ _ _ _ (by omega), lo (a + 1) (by omega)]) (by rw [e1 (a + 1) (by omega), qu_o _ _ _ _ _ (by omega), qu_s]) hM
  · obtain ⟨x, hx0, r1, r2⟩ := q_contrBad d S c g p f s (by omega) hK hP hT hC hB hb
    refine Or.inr ⟨x, 0, zbump S, zbump (qW S (qu (zm S) 37 0 (qps3 x))), r1, ⟨rfl, fun _ _ => rfl⟩, r2, by show qu (zm S) 37 0 (qps3 x) 37 0 = _; exact qu_s _ _ _ _, hx0, _, rfl, qFq_37x (qFq_r S) (qfr_j (A := []) (J := [0]) _ _ _ (by decide)) (by decide) (by decide)⟩
theorem zshl_11 : ∀ k : Nat, k < 11 → zshl 1 (k : Int) = ((2 ^ k : Nat) : Int) := by decide +kernel
theorem qdvb_n (t : Int → Int) (n : Nat) (h : qdvl t n ≤ 10) : ∀ i : Nat, i ≤ n → ∃ P : Nat, qdvb t i = (P : Int) ∧ P < 2 ^ ((qdvl t i).toNat + 1) := by
  intro i
  induction i with
  | zero => intro _; exact ⟨0, rfl, Nat.two_pow_pos _⟩
  | succ i ih =>
    intro hi
    obtain ⟨P, p1, p2⟩ := ih (by omega)
    have r := qdvl_r t i
    have u := (qdvl_u t i (n - i)).1
    rw [show i + (n - i) = n by omega] at u
    rw [qdvb, qdvl]
    by_cases c : t i = 32
    · rw [if_pos c, if_pos c, Int.add_zero]
      obtain ⟨L, hL⟩ : ∃ L : Nat, qdvl t i = (L : Int) := ⟨(qdvl t i).toNat, by omega⟩
      rw [hL] at p2 ⊢
      rw [Int.toNat_natCast] at p2 ⊢
      have b1 : (2 : Nat) ^ (L + 1) ≤ 2 ^ 11 := Nat.pow_le_pow_right (by decide) (by omega)
      have b2 : (2 : Nat) ^ L < 2 ^ (L + 1) := Nat.pow_lt_pow_right (by decide) (by omega)
      have b3 : (2 : Nat) ^ 11 = 2048 := by decide
      rw [p1, zshl_11 L (by omega), zor_nat _ _ (by omega) (by omega)]
      exact ⟨_, rfl, Nat.or_lt_two_pow p2 b2⟩
    · rw [if_neg c, if_neg c]
      refine ⟨P, p1, Nat.lt_of_lt_of_le p2 (Nat.pow_le_pow_right (by decide) (by omega))⟩
theorem qdB_k {t : Int → Int} {n : Int} (hn : 0 ≤ n) (h : qdok t n) : ∃ p L : Nat, qdB t n = (p : Int) ∧ qdvl t n.toNat = (L : Int) ∧ qPk p L := by
  obtain ⟨d1, d2, d3, d4, d5⟩ := qdv t n hn h
  have h10 := h.2.2
  have hw := h.1.2.1
  obtain ⟨P, p1, p2⟩ := qdvb_n t n.toNat h10 n.toNat (Nat.le_refl _)
  obtain ⟨L, hL⟩ : ∃ L : Nat, qdvl t n.toNat = (L : Int) := ⟨(qdvl t n.toNat).toNat, by omega⟩
  have e : ∃ p : Nat, qdB t n = (p : Int) ∧ p < 2 ^ (L + 1) := by
    unfold qdB
    rw [hL] at p2 ⊢
    rw [Int.toNat_natCast] at p2
    have b1 : (2 : Nat) ^ (L + 1) ≤ 2 ^ 11 := Nat.pow_le_pow_right (by decide) (by omega)
    have b2 : (2 : Nat) ^ L < 2 ^ (L + 1) := Nat.pow_lt_pow_right (by decide) (by omega)
    have b3 : (2 : Nat) ^ 11 = 2048 := by decide
    rw [p1, zshl_11 L (by omega), zor_nat _ _ (by omega) (by omega)]
    exact ⟨_, rfl, Nat.or_lt_two_pow p2 b2⟩
  obtain ⟨p, e1, e2⟩ := e
  have b1 : (2 : Nat) ^ (L + 1) ≤ 2 ^ 11 := Nat.pow_le_pow_right (by decide) (by omega)
  have b3 : (2 : Nat) ^ 11 = 2048 := by decide
  have bt := fun i => qbt_nat p (by omega) i
  refine ⟨p, L, e1, hL, ?_, ?_, by omega⟩
  · by_cases c : p % 2 = 0
    · exact c
    · have q : qbt (qdB t n) 0 = 1 := by
        rw [e1, bt 0, if_pos]
        show p / 2 ^ 0 % 2 = 1
        rw [Nat.pow_zero, Nat.div_one]
        omega
      obtain ⟨j, j1, j2, j3⟩ := d4 0 (Int.le_refl _) d5 q
      have := (d1 j j1 j2).1
      omega
  · have q := (d1 (qcw t n.toNat - 1) (by omega) (by omega)).2.2
    rw [d3, e1, bt, hL, Int.toNat_natCast] at q
    have q1 : p / 2 ^ L % 2 = 1 := by
      by_cases c : p / 2 ^ L % 2 = 1
      · exact c
      · rw [if_neg c] at q; exact absurd q (by decide)
    have q2 : p / 2 ^ L < 2 := by
      refine (Nat.div_lt_iff_lt_mul (Nat.two_pow_pos L)).mpr ?_
      rw [Nat.pow_succ] at e2
      omega
    clear e2 b1 bt d1 d2 d4
    generalize p / 2 ^ L = Q at q1 q2 ⊢
    omega
theorem q_divisH (d : Nat) (S : zS) (h : 9 ≤ d) (hK : qK S) (hP : qP (zm S)) (hT : qRT S) (hC : qRC S) (hR : qRD S) (hB : qBh S) (hn : 103 ≤ (zn S : Int)) :
    qAskN (fun S2 => (zm S2 37 12 = zm S 37 12 + 1 ∧ (∀ k, 0 ≤ k → k < zm S 37 12 → zm S2 47 k = zm S 47 k ∧ zm S2 48 k = zm S 48 k) ∧ (∃ p L : Nat, zm S2 48 (zm S 37 12) = (p : Int) ∧ zm S2 47 (zm S 37 12) = (L : Int) ∧ qPk p L) ∧ qhwf (zm S) (-1) (zm S 37 16).toNat = 0) ∧ (qRT S2 ∧ qRC S2 ∧ qRD S2 ∧ qBh S2) ∧ qGw S S2 3 3 18 fun x j => x = 102 ∨ x = 3 ∧ j = 4 ∨ x = 4 ∧ j = 1 ∨ x = 7 ∨ 46 ≤ x ∧ x ≤ 48 ∨ x = 64 ∨ x = 37 ∧ (j = 0 ∨ j = 2 ∨ j = 12 ∨ j = 33 ∨ j = 36 ∨ j = 38)) (fun S2 => ∃ T m2, S2 = zbump (qW T m2) ∧ (T = S ∨ qGw S T 3 3 18 fun _ _ => False) ∧ qFq T m2) S (zD d 120 [vr 3] S) (zD d 213 [vr 37]) qpsA := by
  obtain ⟨e, rfl, he⟩ := qd h
  have hn2 : 0 ≤ zm S 37 2 := hT.2.1.1
  by_cases c : qdok (zm S 38) (zm S 37 2)
  · obtain ⟨T, r, n1, z1, w1, k1, lo, ⟨v0, v1, v2, v3⟩, v4, v5⟩ := s_divMade e S (zn S) (zm S 37 2) (zm S 38) (by omega) hK hP hT rfl hn rfl rfl c
    generalize hN : (zn S : Int) = N at *
    have lk : ∀ x, x < N → zk T x = zk S x := fun x hx => by rw [k1, if_neg (by omega), if_neg (by omega), if_neg (by omega)]
    obtain ⟨g, hKT, hPT, hTT, hCT, hRT, hBT⟩ := qgrown hN hn (by omega) lk lo hK hP hT hC hR hB
    have kN : zk T N = (25, 0) := by rw [k1, if_neg (by omega), if_neg (by omega), if_pos rfl]
    have kL : zk T (N + 1) = (0, 10) := by rw [k1, if_neg (by omega), if_pos rfl]
    have kE : zk T (N + 2) = (0, 4) := by rw [k1, if_pos rfl]
    have s37 : zm T 37 = zm S 37 := lo 37 (by omega)
    have s38 : zm T 38 = zm S 38 := lo 38 (by omega)
    generalize hnn : zm S 37 2 = n at *
    generalize htt : zm S 38 = t at *
    have dv := qdv t n hn2 c
    have hcw := c.1
    generalize hW : qdW t n.toNat = W at *
    have hWL : (W.length : Int) = qdvl t n.toNat := by rw [← hW]; exact qdW_l t n.toNat
    have hl10 : qdvl t n.toNat ≤ 10 := c.2.2
    have hA : qA (zm T) (N + 1) W := qA_f fun i i1 i2 => by rw [v4 i i1 (by omega), ← hW, qdW_n t n.toNat i ⟨i1, by omega⟩]
    have hW10 : 0 < W.length ∧ W.length ≤ 10 := by have := dv.2.2.2.2; omega
    by_cases b : zm T 37 12 = 12 ∨ ¬ qPw (zm T) W 0 = 0 ∨ qhwf (zm T) (-1) (zm T 37 16).toNat = 1
    · have cl := s_divBad e T N (qdvl t n.toNat) W (by omega) hKT hPT hRT hBT kN kL v0 v1 hA hW10 hWL b
      obtain ⟨m2, r2, f0, f1, f2⟩ := r_divBad e (zbump T) 2 n t (by omega) hKT hPT (qRT_r hTT) hRT.2.1 hBT.2.1 (by show zm T 37 2 = n; rw [s37]; exact hnn) s38 (Or.inr ⟨c, by rw [hW]; exact b, rfl⟩)
      refine Or.inr ⟨1, 0, zbump T, zbump (qW T m2), by rw [r]; exact cl, ⟨lo 1 (by omega), fun x hx => lk x (by omega)⟩, r2, f0, by decide, T, m2, rfl, Or.inr ⟨by omega, z1, w1, fun x hx => lk x (by omega), fun x j hx _ => by rw [lo x (by omega)]⟩, qFq_dv f1 f2⟩
    · have b1 : zm T 37 12 ≠ 12 := fun z => b (Or.inl z)
      have b2 : qPw (zm T) W 0 = 0 := Classical.byContradiction fun z => b (Or.inr (Or.inl z))
      have b3 : qhwf (zm T) (-1) (zm T 37 16).toNat = 0 := (qhwf_r _ _ _).resolve_right fun z => b (Or.inr (Or.inr z))
      have hK12 := hRT.2.1
      obtain ⟨K, hKK⟩ : ∃ K, zm T 37 12 = K := ⟨_, rfl⟩
      rw [hKK] at b1 hK12
      have cl := s_divGood e T N (qdvl t n.toNat) K W (by omega) hKT hPT hRT hBT hn kN kL v0 v1 hA hW10 hWL hKK (by omega) b2 b3
      obtain ⟨M, hM⟩ : ∃ M, qu (qu (qu (zm T) 7 K N) 3 4 (K + 1)) 4 1 0 = M := ⟨_, rfl⟩
      rw [hM] at cl
      refine Or.inl ⟨(qdvl t n.toNat), qW T M, by rw [r]; exact cl, ⟨by show M 1 = _; rw [← hM, qu_o _ _ _ _ _ (by decide), qu_o _ _ _ _ _ (by decide), qu_o _ _ _ _ _ (by decide), lo 1 (by omega)], fun x hx => by rw [qkW]; exact lk x (by omega)⟩, fun o => ?_⟩
      obtain ⟨M9, hM9⟩ : ∃ M9, qu M 102 0 o = M9 := ⟨_, rfl⟩
      have hq9 : qo (qW T M) o = qW T M9 := by rw [← hM9]; rfl
      rw [hq9]
      have g9 : ∀ x, x ≠ 102 → M9 x = M x := fun x hx => by rw [← hM9, qu_o _ _ _ _ _ hx]
      have M7 : ∀ i, M9 7 i = if i = K then N else zm T 7 i := fun i => by
        rw [g9 7 (by decide), ← hM, qu_o _ _ _ _ _ (by decide), qu_o _ _ _ _ _ (by decide), qu_row]
      have M34 : M9 3 4 = K + 1 := by rw [g9 3 (by decide), ← hM, qu_o _ _ _ _ _ (by decide), qu_s]
      have M3 : ∀ j, j ≠ 4 → M9 3 j = zm T 3 j := fun j hj => by rw [g9 3 (by decide), ← hM, qu_o _ _ _ _ _ (by decide), qu_i _ _ _ _ _ hj, qu_o _ _ _ _ _ (by decide)]
      have M41 : M9 4 1 = 0 := by rw [g9 4 (by decide), ← hM, qu_s]
      have M4 : ∀ j, j ≠ 1 → M9 4 j = zm T 4 j := fun j hj => by rw [g9 4 (by decide), ← hM, qu_i _ _ _ _ _ hj, qu_o _ _ _ _ _ (by decide), qu_o _ _ _ _ _ (by decide)]
      have Mo : ∀ x, x ≠ 3 → x ≠ 4 → x ≠ 7 ∧ x ≠ 102 → M9 x = zm T x := fun x x1 x2 x3 => by rw [g9 x x3.2, ← hM, qu_o _ _ _ _ _ x2, qu_o _ _ _ _ _ x1, qu_o _ _ _ _ _ x3.1]
      have hPM : qP M9 := hPT.same fun q hq => by
        have bd : ¬ (q.1 = 3 ∧ q.2.1 = 4) ∧ ¬ (q.1 = 4 ∧ q.2.1 = 1) ∧ q.1 ≠ 7 ∧ q.1 ≠ 102 := by
          revert q
          decide
        by_cases c3 : q.1 = 3
        · rw [c3]
          exact M3 _ fun z => bd.1 ⟨c3, z⟩
        · by_cases c4 : q.1 = 4
          · rw [c4]
            exact M4 _ fun z => bd.2.1 ⟨c4, z⟩
          · rw [Mo _ c3 c4 bd.2.2]
      have M37 : M9 37 = zm S 37 := by rw [Mo 37 (by decide) (by decide) (by decide), s37]
      have M38 : M9 38 = t := by rw [Mo 38 (by decide) (by decide) (by decide), s38]
      have hTZ : (0 ≤ n ∧ n ≤ 60) ∧ ∀ i, 0 ≤ i → i < n → 0 ≤ t i ∧ t i < 65536 := by
        have a1 := hT.2.1
        have a2 := hT.2.2.2
        rw [hnn] at a1 a2
        rw [htt] at a2
        exact ⟨a1, a2⟩
      have hTr : qTr (zm (qW T M9)) := by
        show 0 ≤ M9 37 2 ∧ M9 37 2 ≤ 60 ∧ ∀ i, 0 ≤ i → i < M9 37 2 → 0 ≤ M9 38 i ∧ M9 38 i < 65536
        rw [M37, M38, hnn]
        exact ⟨hTZ.1.1, hTZ.1.2, hTZ.2⟩
      have eP : qPw M9 W 0 = qPw (zm T) W 0 := qPw_e (by rw [Mo 37 (by decide) (by decide) (by decide)]) (Mo 46 (by decide) (by decide) (by decide)) (Mo 47 (by decide) (by decide) (by decide)) (Mo 48 (by decide) (by decide) (by decide)) W 0
      have eH : qhwf M9 (-1) (M9 37 16).toNat = 0 := by
        rw [Mo 37 (by decide) (by decide) (by decide), qhwf_e (Mo 54 (by decide) (by decide) (by decide)) (Mo 49 (by decide) (by decide) (by decide))]
        exact b3
      obtain ⟨m2, r2, ⟨f0, f2, f12⟩, f37, fo, f47, f48, f46⟩ := r_divGood e (qW T M9) n K t (by omega) hKT hPM hTr (by show 0 ≤ M9 37 16 ∧ M9 37 16 ≤ 4; rw [Mo 37 (by decide) (by decide) (by decide)]; exact hBT.2.1) (by show M9 37 2 = n; rw [M37]; exact hnn) M38 (by show M9 37 12 = K; rw [Mo 37 (by decide) (by decide) (by decide)]; exact hKK) (by omega) c (by rw [hW]; show qPw M9 W 0 = 0; rw [eP]; exact b2) eH
      have f37 : ∀ j, j ≠ 0 → j ≠ 2 → j ≠ 12 → j ≠ 33 → j ≠ 36 → j ≠ 38 → m2 37 j = zm S 37 j := fun j j1 j2 j3 j4 j5 j6 => by
        rw [f37 j j1 j2 j3 j4 j5 j6]
        show M9 37 j = _
        rw [M37]
      have fo : ∀ x, x ≠ 37 → x ≠ 64 → x ≠ 46 → x ≠ 47 → x ≠ 48 → m2 x = M9 x := fo
      have e46 : ∀ i, zm (qW T M9) 46 i = zm T 46 i := fun i => by show M9 46 i = _; rw [Mo 46 (by decide) (by decide) (by decide)]
      have e47 : ∀ i, zm (qW T M9) 47 i = zm T 47 i := fun i => by show M9 47 i = _; rw [Mo 47 (by decide) (by decide) (by decide)]
      have e48 : ∀ i, zm (qW T M9) 48 i = zm T 48 i := fun i => by show M9 48 i = _; rw [Mo 48 (by decide) (by decide) (by decide)]
      have ft : ∀ x, x < N → x ≠ 3 → x ≠ 4 → x ≠ 7 ∧ x ≠ 102 → x ≠ 37 → x ≠ 64 → x ≠ 46 → x ≠ 47 → x ≠ 48 → m2 x = zm S x := fun x x0 x1 x2 x3 x4 x5 x6 x7 x8 => by rw [fo x x4 x5 x6 x7 x8, Mo x x1 x2 x3, lo x x0]
      have ftT : ∀ x, x ≠ 3 → x ≠ 4 → x ≠ 7 ∧ x ≠ 102 → x ≠ 37 → x ≠ 64 → x ≠ 46 → x ≠ 47 → x ≠ 48 → m2 x = zm T x := fun x x1 x2 x3 x4 x5 x6 x7 x8 => by rw [fo x x4 x5 x6 x7 x8, Mo x x1 x2 x3]
      have gT : qKp T (qW T m2) := qKp_w T m2
      have nomt := qPw_0 hRT W b2
      have dy := fun i i1 i2 => qRD_1 hRT (k := i) i1 i2
      have hu := hRT.2.2.2
      rw [hKK] at nomt dy hu
      have m237 : ∀ j, j ≠ 0 → j ≠ 2 → j ≠ 12 → j ≠ 33 → j ≠ 36 → j ≠ 38 → m2 37 j = zm T 37 j := fun j j1 j2 j3 j4 j5 j6 => by rw [f37 j j1 j2 j3 j4 j5 j6, s37]
      have m23 : ∀ j, j ≠ 4 → m2 3 j = zm T 3 j := fun j hj => by rw [fo 3 (by decide) (by decide) (by decide) (by decide) (by decide), M3 j hj]
      have sKK : zm S 37 12 = K := by rw [← s37]; exact hKK
      have hX : zm (qW T m2) 37 12 = zm S 37 12 + 1 ∧ (∀ k, 0 ≤ k → k < zm S 37 12 → zm (qW T m2) 47 k = zm S 47 k ∧ zm (qW T m2) 48 k = zm S 48 k) ∧ (∃ p L : Nat, zm (qW T m2) 48 (zm S 37 12) = (p : Int) ∧ zm (qW T m2) 47 (zm S 37 12) = (L : Int) ∧ qPk p L) ∧ qhwf (zm S) (-1) (zm S 37 16).toNat = 0 := by
        refine ⟨by show m2 37 12 = _; rw [sKK]; exact f12, fun k k1 k2 => ⟨?_, ?_⟩, ?_, ?_⟩
        · show m2 47 k = _
          rw [f47, if_neg (by omega), e47, lo 47 (by omega)]
        · show m2 48 k = _
          rw [f48, if_neg (by omega), e48, lo 48 (by omega)]
        · obtain ⟨p, L, y1, y2, y3⟩ := qdB_k hn2 c
          refine ⟨p, L, ?_, ?_, y3⟩
          · show m2 48 _ = _
            rw [sKK, f48, if_pos rfl]
            exact y1
          · show m2 47 _ = _
            rw [sKK, f47, if_pos rfl]
            exact y2
        · rw [s37, qhwf_e (lo 54 (by omega)) (lo 49 (by omega))] at b3
          exact b3
      refine ⟨qW T m2, r2, f0, by show m2 102 0 = o; rw [fo 102 (by decide) (by decide) (by decide) (by decide) (by decide), ← hM9, qu_s], hX, ⟨⟨?_, ?_, ?_, fun i i1 i2 => ?_⟩, ?_, ⟨?_, ?_, fun i i1 i2 => ?_, fun i k i1 i2 k2 => ?_⟩, ?_⟩, ?_, ?_, ?_, fun x hx => ?_, fun x j hx he => ?_⟩
      · show m2 4 1 = m2 37 2
        rw [f2, fo 4 (by decide) (by decide) (by decide) (by decide) (by decide), M41]
      · show 0 ≤ m2 37 2 ∧ m2 37 2 ≤ 60
        rw [f2]
        decide
      · show ∀ i, i < m2 37 2 → m2 5 i = m2 38 i
        rw [ftT 5 (by decide) (by decide) (by decide) (by decide) (by decide) (by decide) (by decide) (by decide), ftT 38 (by decide) (by decide) (by decide) (by decide) (by decide) (by decide) (by decide) (by decide), f2]
        exact fun i i2 => hTT.2.2.1 i (by have := hTT.2.1.1; omega)
      · have i2 : i < m2 37 2 := i2
        omega
      · refine qRC_w hCT gT (m23 2 (by decide)) (m237 4 (by decide) (by decide) (by decide) (by decide) (by decide) (by decide)) (ftT 6 (by decide) (by decide) (by decide) (by decide) (by decide) (by decide) (by decide) (by decide)) (fun x x1 x2 => ftT x (by omega) (by omega) (by omega) (by omega) (by omega) (by omega) (by omega) (by omega)) (fun x x1 x2 _ => ftT x (by omega) (by omega) (by omega) (by omega) (by omega) (by omega) (by omega) (by omega)) (fun x x1 x2 _ => by rw [qmW, ftT x (by omega) (by omega) (by omega) (by omega) (by omega) (by omega) (by omega) (by omega)])
      · show m2 3 4 = m2 37 12
        rw [f12, fo 3 (by decide) (by decide) (by decide) (by decide) (by decide), M34]
      · show 0 ≤ m2 37 12 ∧ m2 37 12 ≤ 12
        omega
      · have i2 : i < m2 37 12 := i2
        rw [f12] at i2
        show qDy (qW T m2) (m2 7 i) (m2 48 i) (m2 47 i) (fun j => m2 46 (10 * i + j))
        rw [fo 7 (by decide) (by decide) (by decide) (by decide) (by decide), M7, f47, f48]
        by_cases q : i = K
        · rw [if_pos q, if_pos q, if_pos q]
          have mN : ∀ x, N ≤ x → m2 x = zm T x := fun x hx => ftT x (by omega) (by omega) (by omega) (by omega) (by omega) (by omega) (by omega) (by omega)
          have qv := fun j j1 (j2 : j < qcw t n.toNat) => v5 j j1 j2
          refine ⟨⟨kN, kL, kE, ?_, ?_, hn, by show N + 3 ≤ (zn T : Int); omega⟩, ⟨kN, ?_, ?_, ?_, fun j j1 j2 => ?_, fun j j1 j2 => ?_, ?_, fun p p1 p2 p3 => ?_⟩, ⟨dv.2.2.2.2, hl10⟩, fun j j1 j2 => ?_, ?_⟩
          · show m2 N 0 = _
            rw [mN N (by omega)]; exact v0
          · show m2 N 2 = _
            rw [mN N (by omega)]; exact v2
          · show m2 N 1 = _
            rw [mN N (by omega)]; exact v1
          · show zk T (m2 N 2) = _
            rw [mN N (by omega), v2]; exact kE
          · show 1 ≤ m2 N 3 ∧ m2 N 3 ≤ 4
            rw [mN N (by omega), v3]; omega
          · have j2 : j < m2 N 3 := j2
            rw [mN N (by omega), v3] at j2
            show 0 < m2 (m2 N 2) j ∧ m2 (m2 N 2) j ≤ _ ∧ qbt (qdB t n) (m2 (m2 N 2) j) = 1
            rw [mN N (by omega), v2, mN (N + 2) (by omega), qv j j1 j2]
            exact dv.1 j j1 j2
          · have j2 : j + 1 < m2 N 3 := j2
            rw [mN N (by omega), v3] at j2
            show m2 (m2 N 2) j < m2 (m2 N 2) (j + 1)
            rw [mN N (by omega), v2, mN (N + 2) (by omega), qv j j1 (by omega), qv (j + 1) (by omega) j2]
            exact dv.2.1 j j1 j2
          · show m2 (m2 N 2) (m2 N 3 - 1) = _
            rw [mN N (by omega), v2, v3, mN (N + 2) (by omega), qv _ (by omega) (by omega)]
            exact dv.2.2.1
          · obtain ⟨j, j1, j2, j3⟩ := dv.2.2.2.1 p p1 p2 p3
            refine ⟨j, j1, ?_, ?_⟩
            · show j < m2 N 3
              rw [mN N (by omega), v3]; exact j2
            · show m2 (m2 N 2) j = p
              rw [mN N (by omega), v2, mN (N + 2) (by omega), qv j j1 j2]; exact j3
          · show m2 46 (10 * i + j) = m2 (N + 1) j + 97
            rw [q, f46, if_pos (by omega), mN (N + 1) (by omega), v4 j j1 j2, show 10 * K + j - 10 * K = j by omega]
            omega
          · obtain ⟨y1, y2, y3, y4, y5⟩ := dv
            have := qpl_E (qdB t n) (qdvl t n.toNat) (qdE t n) (qcw t n.toNat).toNat (fun j j1 j2 => y1 j j1 (by omega)) (fun j j1 j2 => y2 j j1 (by omega)) (by rw [show ((qcw t n.toNat).toNat : Int) - 1 = qcw t n.toNat - 1 by omega]; exact y3) (fun p p1 p2 p3 => by
              obtain ⟨j, j1, j2, j3⟩ := y4 p p1 p2 p3
              exact ⟨j, j1, by omega, j3⟩) ((qcw t n.toNat).toNat - 1) (by omega)
            rw [show (((qcw t n.toNat).toNat - 1 : Nat) : Int) = qcw t n.toNat - 1 by omega, y3] at this
            omega
        · rw [if_neg q, if_neg q, if_neg q, e47, e48]
          have d0 := dy i i1 (by omega)
          have d1 := d0.1
          have d2 := d0.2.2.1
          have eg : ∀ j, 0 ≤ j → j < zm T 47 i → m2 46 (10 * i + j) = zm T 46 (10 * i + j) := fun j j1 j2 => by rw [f46, if_neg (by omega), e46]
          obtain ⟨a1, a2, a3, a4, a5⟩ := qDy_w d0 gT fun x x1 x2 => by
            obtain ⟨-, -, -, -, -, b1, b2⟩ := d1
            exact ftT x (by omega) (by omega) (by omega) (by omega) (by omega) (by omega) (by omega) (by omega)
          exact ⟨a1, a2, a3, fun j j1 j2 => (eg j j1 j2).trans (a4 j j1 j2), a5⟩
      · have k2 : k < m2 37 12 := k2
        rw [f12] at k2
        show ¬ (m2 47 i = m2 47 k ∧ ∀ j, 0 ≤ j → j < m2 47 i → m2 46 (10 * i + j) = m2 46 (10 * k + j))
        rw [f47, f47, if_neg (show ¬ i = K by omega), e47]
        have d0 := (dy i i1 (by omega)).2.2.1
        have eg : ∀ j, 0 ≤ j → j < zm T 47 i → m2 46 (10 * i + j) = zm T 46 (10 * i + j) := fun j j1 j2 => by rw [f46, if_neg (by omega), e46]
        by_cases q : k = K
        · rw [if_pos q]
          intro w
          refine nomt i i1 (by omega) ⟨by rw [hWL]; exact w.1, fun j j1 j2 => ?_⟩
          rw [hWL] at j2
          have w2 := w.2 j j1 (by omega)
          rw [eg j j1 (by omega), q, f46, if_pos (by omega), show 10 * K + j - 10 * K = j by omega] at w2
          show zm T 46 (10 * i + j) = qnth W j + 97
          rw [w2, ← hW, qdW_n t n.toNat j ⟨j1, j2⟩]
          omega
        · rw [if_neg q, e47]
          intro w
          have dk := (dy k (by omega) (by omega)).2.2.1
          refine hu i k i1 i2 (by omega) ⟨w.1, fun j j1 j2 => ?_⟩
          have w2 := w.2 j j1 j2
          have := w.1
          rw [eg j j1 j2, f46, if_neg (by omega), e46] at w2
          exact w2
      · exact qBh_w hBT gT (m23 6 (by decide)) (m237 16 (by decide) (by decide) (by decide) (by decide) (by decide) (by decide)) (ftT 8 (by decide) (by decide) (by decide) (by decide) (by decide) (by decide) (by decide) (by decide)) (ftT 49 (by decide) (by decide) (by decide) (by decide) (by decide) (by decide) (by decide) (by decide)) (ftT 54 (by decide) (by decide) (by decide) (by decide) (by decide) (by decide) (by decide) (by decide)) (by rw [qmW, m237 4 (by decide) (by decide) (by decide) (by decide) (by decide) (by decide)]; exact Int.le_refl _) (fun c _ _ => by rw [qmW, ftT 6 (by decide) (by decide) (by decide) (by decide) (by decide) (by decide) (by decide) (by decide)]) (fun x x1 x2 _ => by rw [qmW, ftT x (by omega) (by omega) (by omega) (by omega) (by omega) (by omega) (by omega) (by omega)]; exact ⟨rfl, rfl⟩)
      · show (zn T : Int) = (zn S : Int) + (3 : Nat)
        omega
      · exact z1
      · exact w1
      · exact lk x (by omega)
      · have he : ¬ (x = 102 ∨ x = 3 ∧ j = 4 ∨ x = 4 ∧ j = 1 ∨ x = 7 ∨ 46 ≤ x ∧ x ≤ 48 ∨ x = 64 ∨ x = 37 ∧ (j = 0 ∨ j = 2 ∨ j = 12 ∨ j = 33 ∨ j = 36 ∨ j = 38)) := he
        show m2 x j = zm S x j
        by_cases c37 : x = 37
        · subst c37
          exact f37 j (by omega) (by omega) (by omega) (by omega) (by omega) (by omega)
        · rw [fo x c37 (by omega) (by omega) (by omega) (by omega)]
          by_cases c3 : x = 3
          · subst c3
            rw [M3 j (by omega), lo 3 (by omega)]
          · by_cases c4 : x = 4
            · subst c4
              rw [M4 j (by omega), lo 4 (by omega)]
            · rw [Mo x c3 c4 (by omega), lo x (by omega)]
  · have cl : zD (e + 1) 120 [vr 3] S = some (.inr 0, zbump S) := by
      have isd := (s_isDivision e S _ _ (by omega) hK hP hT rfl rfl).2 c
      simp (config := { maxSteps := 2000000 }) (disch := first | omega | (simp only [K_3 hK, K_4 hK, P_3_0 hP, P_3_0 hP, qb_in, qkW, qmW, qnW, true_and, and_true, or_self, true_or, or_true, and_self]; done) | (simp only [K_3 hK, K_4 hK, P_3_0 hP, P_3_0 hP, qb_in, qkW, qmW, qnW, true_and, and_true, or_self, true_or, or_true, and_self]; omega)) only [zD_120, b120_0, b120_7, b120_10, b120_20, b120_27, b120_36, b120_45, b120_57, b120_60, b120_64, b120_67, b120_77, b120_93, qcall_l, qcall_r, qretn_l, qJ_s, qJ_n, qV0, qEx, ↓qif0, ↓zchk_pos, ↓reduceIte, qput, qWW, qmW, qkW, qnW, K_3 hK, K_4 hK, P_3_0 hP, P_3_0 hP, isd, Int.reduceEq]
    obtain ⟨m2, r2, f0, f1, f2⟩ := r_divBad e (zbump S) 1 (zm S 37 2) (zm S 38) (by omega) hK hP (qRT_r hT) hR.2.1 hB.2.1 rfl rfl (Or.inl ⟨c, rfl⟩)
    exact Or.inr ⟨0, 0, zbump S, zbump (qW S m2), cl, ⟨rfl, fun _ _ => rfl⟩, r2, f0, by decide, S, m2, rfl, Or.inl rfl, qFq_dv f1 f2⟩
