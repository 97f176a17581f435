/-! A book is made. -/
theorem s_bookInit (d : Nat) (S : zS) (x c a g w t b N : Int) (h : 1 ≤ d) (hx : zk S x = (20, 0)) (h0 : 0 < x ∧ x < N) (hN : (zn S : Int) = N) (hw : 18 ≤ w ∧ w ≤ 40) (ht : 3 ≤ t ∧ t ≤ 25) (hb : 0 ≤ b ∧ b ≤ 1) :
    zD d 0 [vr x, vi c, vr a, vi g, vi w, vi t, vi b] S = some (.inl none, qW (zalloc (zalloc S 11 80 80) 3 (qbl w t) (qbl w t).toNat) (qu (qz (qu (qu (qu (qu (qu (qu (qu (qu (qz (zm S) N) x 6 N) x 11 1) x 0 c) x 1 a) x 2 g) x 3 w) x 4 t) x 5 b) (N + 1)) x 8 (N + 1))) := by
  obtain ⟨e, rfl, -⟩ := qd h
  subst hN
  obtain ⟨q1, q2, q3, q4, -⟩ := qmp_r ht
  obtain ⟨l1, l2⟩ := qbl_r ht hw
  have f1 : (if (1 : Int) < z32 (t - 1) then z32 (t - 1) else 1) = t - 1 := by rw [q32 (by omega), if_pos (by omega)]
  have f2 : z32 (z32 (Int.tdiv 240 (t - 1)) + 1) = qmp t := by
    have e1 : Int.tdiv 240 (t - 1) = qmp t - 1 := by unfold qmp; omega
    rw [e1, q32 (x := qmp t - 1) (by omega), q32 (by omega)]
    omega
  have f3 : z32 (z32 (qmp t * t) * w) = qbl w t := by
    rw [q32 (x := qmp t * t) (by omega)]
    exact q32 (by unfold qbl at l1 l2; omega)
  have f4 : (if (0 : Int) < qbl w t then qbl w t else 0) = qbl w t := by
    by_cases c : 0 < qbl w t
    · exact if_pos c
    · rw [if_neg c]; omega
  have fb : 0 ≤ b := hb.1
  simp (config := { maxSteps := 2000000 }) (disch := first | omega | (simp only [qal_n, hx, qal_o, f1, f2, f3, f4, qb_in, qkW, qmW, qnW, true_and, and_true, or_self, true_or, or_true, and_self]; done) | (simp only [qal_n, hx, qal_o, f1, f2, f3, f4, qb_in, qkW, qmW, qnW, true_and, and_true, or_self, true_or, or_true, and_self]; omega)) only [zD_0, b0_0, b0_13, b0_19, b0_36, b0_57, b0_71, b0_85, qcall_l, qcall_r, qretn_l, qJ_s, qJ_n, qV0, qEx, ↓qif0, ↓zchk_pos, ↓reduceIte, qput, qWW, qmW, qkW, qnW, qalW, qal_n, qal_o, qal_m, hx, f1, f2, f3, f4, Int.reduceToNat]
theorem q_book (d : Nat) (S : zS) (c g w t b : Int) (Q : zS → Prop) (h : 5 ≤ d) (hK : qK S) (hP : qP (zm S)) (hC : qRC S) (hN : qNb S) (hn : 103 ≤ (zn S : Int)) (hb : 0 ≤ b ∧ b ≤ 1) (hQ0 : ∀ v, Q (zbump (qW S (qu (zm S) 37 0 v))))
    (hQ : ∀ (S2 : zS), 0 ≤ c → c < zm S 37 4 → 0 ≤ g → g ≤ 3 → 18 ≤ w → w ≤ 40 → 3 ≤ t → t ≤ 25 → zm S 37 16 < 4 → (zn S2 : Int) = zn S + 3 → zc S2 = zc S + 3 → zw S2 = zw S + 98 + (qbl w t).toNat → (∀ x, zk S2 x = if x = (zn S : Int) + 2 then (3, qbl w t) else if x = (zn S : Int) + 1 then (11, 80) else if x = zn S then (20, 0) else zk S x) →
      (∀ x : Int, x < zn S → x ≠ 3 → x ≠ 8 → x ≠ 37 → ¬ (49 ≤ x ∧ x ≤ 53) → x ≠ 102 → zm S2 x = zm S x) → (∀ j, j ≠ 6 → zm S2 3 j = zm S 3 j) → zm S2 3 6 = zm S 37 16 + 1 → (∀ i, zm S2 8 i = if i = zm S 37 16 then (zn S : Int) else zm S 8 i) → (∀ j, j ≠ 0 → j ≠ 16 → zm S2 37 j = zm S 37 j) → zm S2 37 16 = zm S 37 16 + 1 →
      (∀ i, zm S2 49 i = if i = zm S 37 16 then c else zm S 49 i) → (∀ i, zm S2 50 i = if i = zm S 37 16 then g else zm S 50 i) → (∀ i, zm S2 51 i = if i = zm S 37 16 then w else zm S 51 i) → (∀ i, zm S2 52 i = if i = zm S 37 16 then t else zm S 52 i) → (∀ i, zm S2 53 i = if i = zm S 37 16 then b else zm S 53 i) →
      (∀ j, zm S2 (zn S) j = if j = 8 then (zn S : Int) + 2 else if j = 5 then b else if j = 4 then t else if j = 3 then w else if j = 2 then g else if j = 1 then zm S 6 c else if j = 0 then c else if j = 11 then 1 else if j = 6 then (zn S : Int) + 1 else 0) → (∀ j, zm S2 ((zn S : Int) + 1) j = 0) → (∀ j, zm S2 ((zn S : Int) + 2) j = 0) → Q S2) :
    qUn vi qid Q S (zD d 131 [vr 3, vi c, vi g, vi w, vi t, vi b] S) (zD d 253 [vr 37, vi c, vi g, vi w, vi t, vi b]) qps3 := by
  obtain ⟨e, rfl, h1⟩ := qd h
  have hKb : qK (zbump S) := hK
  obtain ⟨n1, n2⟩ := hN
  by_cases c1 : 0 ≤ c ∧ c < zm S 37 4
  · have co := s_codeOf_y e S c (by omega) hK hP hC c1
    by_cases c2 : (0 ≤ g ∧ g ≤ 3) ∧ (18 ≤ w ∧ w ≤ 40) ∧ (3 ≤ t ∧ t ≤ 25)
    · obtain ⟨cg, cw, ct⟩ := c2
      have ck := s_checkGrade_y e S g (by omega) cg
      by_cases c3 : zm S 37 16 < 4
      · obtain ⟨N, hNn⟩ : ∃ N : Int, (zn S : Int) = N := ⟨_, rfl⟩
        obtain ⟨k, hk⟩ : ∃ k, zm S 37 16 = k := ⟨_, rfl⟩
        rw [hk] at n1 n2 c3
        have ci := s_bookInit e (zalloc S 20 0 18) N c (zm S 6 c) g w t b (N + 1) (by omega) (qal_e _ _ _ _ hNn.symm) (by omega) (by rw [qal_n, hNn]) cw ct hb
        obtain ⟨T, hT⟩ : ∃ T, qW (zalloc (zalloc (zalloc S 20 0 18) 11 80 80) 3 (qbl w t) (qbl w t).toNat) (qu (qz (qu (qu (qu (qu (qu (qu (qu (qu (qz (zm (zalloc S 20 0 18)) (N + 1)) N 6 (N + 1)) N 11 1) N 0 c) N 1 (zm S 6 c)) N 2 g) N 3 w) N 4 t) N 5 b) (N + 1 + 1)) N 8 (N + 1 + 1)) = T := ⟨_, rfl⟩
        rw [hT] at ci
        have kT : ∀ x, zk T x = if x = N + 2 then (3, qbl w t) else if x = N + 1 then (11, 80) else if x = N then (20, 0) else zk S x := fun x => by
          rw [← hT, ← hNn, show (zn S : Int) + 2 = (zn S : Int) + 1 + 1 by omega]; rfl
        have mT : ∀ x, x < N → zm T x = zm S x := fun x hx => by
          rw [← hT, qmW, qu_o _ _ _ _ _ (by omega), qz_o _ (by omega), qu_o _ _ _ _ _ (by omega), qu_o _ _ _ _ _ (by omega), qu_o _ _ _ _ _ (by omega), qu_o _ _ _ _ _ (by omega), qu_o _ _ _ _ _ (by omega), qu_o _ _ _ _ _ (by omega), qu_o _ _ _ _ _ (by omega), qu_o _ _ _ _ _ (by omega), qz_o _ (by omega), qal_m, qz_o _ (by omega)]
        have mN : ∀ j, zm T N j = if j = 8 then N + 2 else if j = 5 then b else if j = 4 then t else if j = 3 then w else if j = 2 then g else if j = 1 then zm S 6 c else if j = 0 then c else if j = 11 then 1 else if j = 6 then N + 1 else 0 := fun j => by
          rw [← hT, qmW, qu_row, qz_o _ (by omega), show N + 1 + 1 = N + 2 by omega]
          show (if j = 8 then N + 2 else _) = _
          rw [qu_row, qu_row, qu_row, qu_row, qu_row, qu_row, qu_row, qu_row, qz_o _ (by omega), qal_m, hNn]
          show (if j = 8 then N + 2 else if j = 5 then b else if j = 4 then t else if j = 3 then w else if j = 2 then g else if j = 1 then zm S 6 c else if j = 0 then c else if j = 11 then 1 else if j = 6 then N + 1 else qz (zm S) N N j) = _
          rw [qz_s]
        have mL : ∀ j, zm T (N + 1) j = 0 := fun j => by
          rw [← hT, qmW, qu_o _ _ _ _ _ (by omega), qz_o _ (by omega), qu_o _ _ _ _ _ (by omega), qu_o _ _ _ _ _ (by omega), qu_o _ _ _ _ _ (by omega), qu_o _ _ _ _ _ (by omega), qu_o _ _ _ _ _ (by omega), qu_o _ _ _ _ _ (by omega), qu_o _ _ _ _ _ (by omega), qu_o _ _ _ _ _ (by omega), qz_s]
        have mC : ∀ j, zm T (N + 2) j = 0 := fun j => by
          rw [← hT, qmW, qu_o _ _ _ _ _ (by omega), show N + 1 + 1 = N + 2 by omega, qz_s]
        have nT : (zn T : Int) = N + 3 := by rw [← hT, qnW, qal_n, qal_n, qal_n, hNn]; omega
        have zT : zc T = zc S + 3 := by rw [← hT]; rfl
        have wT : zw T = zw S + 98 + (qbl w t).toNat := by
          rw [← hT]
          show zw S + 18 + 80 + (qbl w t).toNat = _
          omega
        have hKT : qK T := qK_g hK (by omega) fun x hx => by rw [kT, if_neg (by omega), if_neg (by omega), if_neg (by omega)]
        have kN : zk T N = (20, 0) := by rw [kT, if_neg (by omega), if_neg (by omega), if_pos rfl]
        have e3 : zm T 3 = zm S 3 := mT 3 (by omega)
        have x3 : qu (zm T) 8 k N 3 = zm S 3 := by rw [qu_o _ _ _ _ _ (by decide), e3]
        have s6 : qu (qu (zm T) 8 k N) 3 6 (k + 1) 3 6 = k + 1 := qu_s _ _ _ _
        have p5 : zm S 3 5 = 8 := P_3_5 hP
        have cls : zD (e + 1) 131 [vr 3, vi c, vi g, vi w, vi t, vi b] S = some (.inl (some (vi k)), qW T (qu (qu (zm T) 8 k N) 3 6 (k + 1))) := by
          simp (config := { maxSteps := 2000000 }) (disch := first | omega | (simp only [K_3 hK, K_8 hKT, K_3 hKT, p5, n1, hNn, kN, x3, qb_in, qkW, qmW, qnW, true_and, and_true, or_self, true_or, or_true, and_self]; done) | (simp only [K_3 hK, K_8 hKT, K_3 hKT, p5, n1, hNn, kN, x3, qb_in, qkW, qmW, qnW, true_and, and_true, or_self, true_or, or_true, and_self]; omega)) only [zD_131, b131_0, b131_5, b131_11, b131_17, b131_23, b131_29, b131_36, b131_47, b131_55, b131_66, b131_83, b131_90, b131_106, qcall_l, qcall_r, qretn_l, qJ_s, qJ_n, qV0, qEx, ↓qif0, ↓zchk_pos, ↓reduceIte, qput, qWW, qmW, qkW, qnW, K_3 hK, K_8 hKT, K_3 hKT, p5, n1, co, ck, hNn, if_neg (show ¬ w < 18 by omega), if_neg (show ¬ 40 < w by omega), if_neg (show ¬ t < 3 by omega), if_neg (show ¬ 25 < t by omega), if_pos c3, ci, kN, x3, s6, q32, show k + 1 - 1 = k by omega]
        obtain ⟨M, hM⟩ : ∃ M, qu (qu (zm T) 8 k N) 3 6 (k + 1) = M := ⟨_, rfl⟩
        rw [hM] at cls
        have M8 : ∀ i, M 8 i = if i = k then N else zm S 8 i := fun i => by rw [← hM, qu_o _ _ _ _ _ (by decide), qu_row, mT 8 (by omega)]
        have M3 : ∀ j, j ≠ 6 → M 3 j = zm S 3 j := fun j hj => by rw [← hM, qu_i _ _ _ _ _ hj, x3]
        have M36 : M 3 6 = k + 1 := by rw [← hM, qu_s]
        have Mo : ∀ x, x ≠ 3 → x ≠ 8 → M x = zm T x := fun x x1 x2 => by rw [← hM, qu_o _ _ _ _ _ x1, qu_o _ _ _ _ _ x2]
        refine Or.inl ⟨k, qW T M, cls, ⟨by show M 1 = _; rw [Mo 1 (by decide) (by decide), mT 1 (by omega)], fun x hx => by rw [qkW, kT, if_neg (by omega), if_neg (by omega), if_neg (by omega)]⟩, ?_⟩
        obtain ⟨M9, hM9⟩ : ∃ M9, qu M 102 0 (qid k) = M9 := ⟨_, rfl⟩
        have hq9 : qo (qW T M) (qid k) = qW T M9 := by rw [← hM9]; rfl
        rw [hq9]
        have g9 : ∀ x, x ≠ 102 → M9 x = M x := fun x hx => by rw [← hM9, qu_o _ _ _ _ _ hx]
        have M37 : M9 37 = zm S 37 := by rw [g9 37 (by decide), Mo 37 (by decide) (by decide), mT 37 (by omega)]
        have i1 := r_isGrade e (qW T M9) g (by omega)
        rw [qb_p cg] at i1
        have i2 := r_in e w 18 40 (qW T M9) (by omega)
        rw [qb_p cw] at i2
        have i3 := r_in e t 3 25 (qW T M9) (by omega)
        rw [qb_p ct] at i3
        have ic := r_isCode' e (qW T M9) c (by omega) hKT (by show 0 ≤ M9 37 4 ∧ M9 37 4 ≤ 3; rw [M37]; exact hC.2.1)
        rw [qb_p (show 0 ≤ c ∧ c ≤ zm (qW T M9) 37 4 - 1 by show 0 ≤ c ∧ c ≤ M9 37 4 - 1; rw [M37]; omega)] at ic
        have hd := r_holds e (qW T M9) 0 (by omega) hKT
        rw [qb_p rfl] at hd
        have hd : zD e 182 [vr 37, vi 0] (qW T M9) = some (.inl (some (vi 1)), qW T (qu M9 37 0 0)) := hd
        have a16 : M9 37 16 = k := by rw [M37, hk]
        obtain ⟨A, hA⟩ : ∃ A, qu M9 37 0 0 = A := ⟨_, rfl⟩
        rw [hA] at hd
        have A16 : A 37 16 = k := by rw [← hA, qu_i _ _ _ _ _ (by decide), a16]
        have A17 : A 37 17 = 49 := by rw [← hA, qu_i _ _ _ _ _ (by decide), M37]; exact P_37_17 hP
        have A18 : A 37 18 = 50 := by rw [← hA, qu_i _ _ _ _ _ (by decide), M37]; exact P_37_18 hP
        have A19 : A 37 19 = 51 := by rw [← hA, qu_i _ _ _ _ _ (by decide), M37]; exact P_37_19 hP
        have A20 : A 37 20 = 52 := by rw [← hA, qu_i _ _ _ _ _ (by decide), M37]; exact P_37_20 hP
        have A21 : A 37 21 = 53 := by rw [← hA, qu_i _ _ _ _ _ (by decide), M37]; exact P_37_21 hP
        have B1 : qu A 49 k c 37 = A 37 := qu_o _ _ _ _ _ (by decide)
        have B2 : qu (qu A 49 k c) 50 k g 37 = A 37 := by rw [qu_o _ _ _ _ _ (by decide), B1]
        have B3 : qu (qu (qu A 49 k c) 50 k g) 51 k w 37 = A 37 := by rw [qu_o _ _ _ _ _ (by decide), B2]
        have B4 : qu (qu (qu (qu A 49 k c) 50 k g) 51 k w) 52 k t 37 = A 37 := by rw [qu_o _ _ _ _ _ (by decide), B3]
        have B5 : qu (qu (qu (qu (qu A 49 k c) 50 k g) 51 k w) 52 k t) 53 k b 37 = A 37 := by rw [qu_o _ _ _ _ _ (by decide), B4]
        have B6 : qu (qu (qu (qu (qu (qu A 49 k c) 50 k g) 51 k w) 52 k t) 53 k b) 37 16 (k + 1) 37 16 = k + 1 := qu_s _ _ _ _
        have ref : zD (e + 1) 253 [vr 37, vi c, vi g, vi w, vi t, vi b] (qW T M9) = some (.inl (some (vi k)), qW T (qu (qu (qu (qu (qu (qu A 49 k c) 50 k g) 51 k w) 52 k t) 53 k b) 37 16 (k + 1))) := by
          simp (config := { maxSteps := 2000000 }) (disch := first | omega | (simp only [K_37 hKT, K_49 hKT, K_50 hKT, K_51 hKT, K_52 hKT, K_53 hKT, a16, A16, A17, A18, A19, A20, A21, B1, B2, B3, B4, B5, qb_in, qkW, qmW, qnW, true_and, and_true, or_self, true_or, or_true, and_self]; done) | (simp only [K_37 hKT, K_49 hKT, K_50 hKT, K_51 hKT, K_52 hKT, K_53 hKT, a16, A16, A17, A18, A19, A20, A21, B1, B2, B3, B4, B5, qb_in, qkW, qmW, qnW, true_and, and_true, or_self, true_or, or_true, and_self]; omega)) only [zD_253, b253_0, b253_4, b253_7, b253_15, b253_18, b253_26, b253_29, b253_33, b253_34, b253_42, b253_45, b253_49, b253_54, b253_58, b253_66, b253_70, b253_71, b253_74, b253_77, b253_79, b253_97, b253_113, b253_131, b253_147, qcall_l, qcall_r, qretn_l, qJ_s, qJ_n, qV0, qEx, ↓qif0, ↓zchk_pos, ↓reduceIte, qput, qWW, qmW, qkW, qnW, K_37 hKT, K_49 hKT, K_50 hKT, K_51 hKT, K_52 hKT, K_53 hKT, i1, i2, i3, ic, a16, if_neg (show ¬ k = 4 by omega), hd, A16, A17, A18, A19, A20, A21, B1, B2, B3, B4, B5, B6, q32, Int.reduceEq, show k + 1 - 1 = k by omega]
        obtain ⟨m2, hm2⟩ : ∃ m2, qu (qu (qu (qu (qu (qu A 49 k c) 50 k g) 51 k w) 52 k t) 53 k b) 37 16 (k + 1) = m2 := ⟨_, rfl⟩
        rw [hm2] at ref
        have fo : ∀ x, x ≠ 37 → ¬ (49 ≤ x ∧ x ≤ 53) → m2 x = M9 x := fun x x1 x2 => by rw [← hm2, qu_o _ _ _ _ _ x1, qu_o _ _ _ _ _ (by omega), qu_o _ _ _ _ _ (by omega), qu_o _ _ _ _ _ (by omega), qu_o _ _ _ _ _ (by omega), qu_o _ _ _ _ _ (by omega), ← hA, qu_o _ _ _ _ _ x1]
        have fA : ∀ x, 49 ≤ x → x ≤ 53 → A x = zm S x := fun x x1 x2 => by rw [← hA, qu_o _ _ _ _ _ (by omega), g9 x (by omega), Mo x (by omega) (by omega), mT x (by omega)]
        refine ⟨qW T m2, ref, ⟨?_, fun x hx => by rw [qkW, kT, if_neg (by omega), if_neg (by omega), if_neg (by omega)]⟩, ?_, ?_, ?_⟩
        · show m2 1 = _
          rw [fo 1 (by decide) (by decide), g9 1 (by decide), Mo 1 (by decide) (by decide), mT 1 (by omega)]
        · show m2 37 0 = 0
          rw [← hm2, qu_i _ _ _ _ _ (by decide), B5, ← hA, qu_s]
        · show m2 102 0 = _
          rw [fo 102 (by decide) (by decide), ← hM9, qu_s]
        · rw [hNn, hk] at hQ
          refine hQ (qW T m2) c1.1 c1.2 cg.1 cg.2 cw.1 cw.2 ct.1 ct.2 c3 nT zT wT kT (fun x x0 x1 x2 x3 x4 x5 => ?_) (fun j hj => ?_) ?_ (fun i => ?_) (fun j j0 j1 => ?_) ?_ (fun i => ?_) (fun i => ?_) (fun i => ?_) (fun i => ?_) (fun i => ?_) (fun j => ?_) (fun j => ?_) fun j => ?_
          · show m2 x = _
            rw [fo x x3 x4, g9 x x5, Mo x x1 x2, mT x x0]
          · show m2 3 j = _
            rw [fo 3 (by decide) (by decide), g9 3 (by decide), M3 j hj]
          · show m2 3 6 = _
            rw [fo 3 (by decide) (by decide), g9 3 (by decide), M36]
          · show m2 8 i = _
            rw [fo 8 (by decide) (by decide), g9 8 (by decide), M8]
          · show m2 37 j = _
            rw [← hm2, qu_i _ _ _ _ _ j1, B5, ← hA, qu_i _ _ _ _ _ j0, M37]
          · show m2 37 16 = _
            rw [← hm2, qu_s]
          · show m2 49 i = _
            rw [← hm2, qu_o _ _ _ _ _ (by decide), qu_o _ _ _ _ _ (by decide), qu_o _ _ _ _ _ (by decide), qu_o _ _ _ _ _ (by decide), qu_o _ _ _ _ _ (by decide), qu_row, fA 49 (by decide) (by decide)]
          · show m2 50 i = _
            rw [← hm2, qu_o _ _ _ _ _ (by decide), qu_o _ _ _ _ _ (by decide), qu_o _ _ _ _ _ (by decide), qu_o _ _ _ _ _ (by decide), qu_row, qu_o _ _ _ _ _ (by decide), fA 50 (by decide) (by decide)]
          · show m2 51 i = _
            rw [← hm2, qu_o _ _ _ _ _ (by decide), qu_o _ _ _ _ _ (by decide), qu_o _ _ _ _ _ (by decide), qu_row, qu_o _ _ _ _ _ (by decide), qu_o _ _ _ _ _ (by decide), fA 51 (by decide) (by decide)]
          · show m2 52 i = _
            rw [← hm2, qu_o _ _ _ _ _ (by decide), qu_o _ _ _ _ _ (by decide), qu_row, qu_o _ _ _ _ _ (by decide), qu_o _ _ _ _ _ (by decide), qu_o _ _ _ _ _ (by decide), fA 52 (by decide) (by decide)]
          · show m2 53 i = _
            rw [← hm2, qu_o _ _ _ _ _ (by decide), qu_row, qu_o _ _ _ _ _ (by decide), qu_o _ _ _ _ _ (by decide), qu_o _ _ _ _ _ (by decide), qu_o _ _ _ _ _ (by decide), fA 53 (by decide) (by decide)]
          · show m2 N j = _
            rw [fo N (by omega) (by omega), g9 N (by omega), Mo N (by omega) (by omega), mN]
          · show m2 (N + 1) j = _
            rw [fo (N + 1) (by omega) (by omega), g9 (N + 1) (by omega), Mo (N + 1) (by omega) (by omega), mL]
          · show m2 (N + 2) j = _
            rw [fo (N + 2) (by omega) (by omega), g9 (N + 2) (by omega), Mo (N + 2) (by omega) (by omega), mC]
      · -- books enough
        refine qUn_no ⟨1, ?_, ?_, by decide⟩ hQ0
        · simp (config := { maxSteps := 2000000 }) (disch := first | omega | (simp only [K_3 hK, qb_in, qkW, qmW, qnW, true_and, and_true, or_self, true_or, or_true, and_self]; done) | (simp only [K_3 hK, qb_in, qkW, qmW, qnW, true_and, and_true, or_self, true_or, or_true, and_self]; omega)) only [zD_131, b131_0, b131_5, b131_11, b131_17, b131_23, b131_29, b131_36, b131_47, b131_55, b131_66, b131_83, b131_90, b131_106, qcall_l, qcall_r, qretn_l, qJ_s, qJ_n, qV0, qEx, ↓qif0, ↓zchk_pos, ↓reduceIte, qput, qWW, qmW, qkW, qnW, K_3 hK, n1, co, ck, if_neg (show ¬ w < 18 by omega), if_neg (show ¬ 40 < w by omega), if_neg (show ¬ t < 3 by omega), if_neg (show ¬ 25 < t by omega), if_neg c3]
        · have i1 := r_isGrade e (zbump S) g (by omega)
          rw [qb_p cg] at i1
          have i2 := r_in e w 18 40 (zbump S) (by omega)
          rw [qb_p cw] at i2
          have i3 := r_in e t 3 25 (zbump S) (by omega)
          rw [qb_p ct] at i3
          have ic := r_isCode' e (zbump S) c (by omega) hKb hC.2.1
          rw [qb_p (show 0 ≤ c ∧ c ≤ zm (zbump S) 37 4 - 1 by show 0 ≤ c ∧ c ≤ zm S 37 4 - 1; omega)] at ic
          have hd := r_refuse e S 3 (by omega) hK (by decide)
          have a16 : zm (zbump S) 37 16 = 4 := by show zm S 37 16 = 4; omega
          simp (config := { maxSteps := 2000000 }) (disch := first | omega | (simp only [K_37 hKb, a16, qb_in, qkW, qmW, qnW, true_and, and_true, or_self, true_or, or_true, and_self]; done) | (simp only [K_37 hKb, a16, qb_in, qkW, qmW, qnW, true_and, and_true, or_self, true_or, or_true, and_self]; omega)) only [zD_253, b253_0, b253_4, b253_7, b253_15, b253_18, b253_26, b253_29, b253_33, b253_34, b253_42, b253_45, b253_49, b253_54, b253_58, b253_66, b253_70, b253_71, b253_74, b253_77, b253_79, b253_97, b253_113, b253_131, b253_147, qcall_l, qcall_r, qretn_l, qJ_s, qJ_n, qV0, qEx, ↓qif0, ↓zchk_pos, ↓reduceIte, qput, qWW, qmW, qkW, qnW, K_37 hKb, i1, i2, i3, ic, a16, hd, Int.reduceEq]
          rfl
    · refine qUn_no ⟨0, ?_, ?_, by decide⟩ hQ0
      · by_cases d1 : 0 ≤ g ∧ g ≤ 3
        · have ck := s_checkGrade_y e S g (by omega) d1
          by_cases d2 : w < 18
          · simp (config := { maxSteps := 2000000 }) (disch := first | omega | (simp only [K_3 hK, qb_in, qkW, qmW, qnW, true_and, and_true, or_self, true_or, or_true, and_self]; done) | (simp only [K_3 hK, qb_in, qkW, qmW, qnW, true_and, and_true, or_self, true_or, or_true, and_self]; omega)) only [zD_131, b131_0, b131_5, b131_11, b131_17, b131_23, b131_29, b131_36, b131_47, b131_55, b131_66, b131_83, b131_90, b131_106, qcall_l, qcall_r, qretn_l, qJ_s, qJ_n, qV0, qEx, ↓qif0, ↓zchk_pos, ↓reduceIte, qput, qWW, qmW, qkW, qnW, K_3 hK, co, ck, if_pos d2]
          · by_cases d3 : 40 < w
            · simp (config := { maxSteps := 2000000 }) (disch := first | omega | (simp only [K_3 hK, qb_in, qkW, qmW, qnW, true_and, and_true, or_self, true_or, or_true, and_self]; done) | (simp only [K_3 hK, qb_in, qkW, qmW, qnW, true_and, and_true, or_self, true_or, or_true, and_self]; omega)) only [zD_131, b131_0, b131_5, b131_11, b131_17, b131_23, b131_29, b131_36, b131_47, b131_55, b131_66, b131_83, b131_90, b131_106, qcall_l, qcall_r, qretn_l, qJ_s, qJ_n, qV0, qEx, ↓qif0, ↓zchk_pos, ↓reduceIte, qput, qWW, qmW, qkW, qnW, K_3 hK, co, ck, if_neg d2, if_pos d3]
            · by_cases d4 : t < 3
              · simp (config := { maxSteps := 2000000 }) (disch := first | omega | (simp only [K_3 hK, qb_in, qkW, qmW, qnW, true_and, and_true, or_self, true_or, or_true, and_self]; done) | (simp only [K_3 hK, qb_in, qkW, qmW, qnW, true_and, and_true, or_self, true_or, or_true, and_self]; omega)) only [zD_131, b131_0, b131_5, b131_11, b131_17, b131_23, b131_29, b131_36, b131_47, b131_55, b131_66, b131_83, b131_90, b131_106, qcall_l, qcall_r, qretn_l, qJ_s, qJ_n, qV0, qEx, ↓qif0, ↓zchk_pos, ↓reduceIte, qput, qWW, qmW, qkW, qnW, K_3 hK, co, ck, if_neg d2, if_neg d3, if_pos d4]
              · simp (config := { maxSteps := 2000000 }) (disch := first | omega | (simp only [K_3 hK, qb_in, qkW, qmW, qnW, true_and, and_true, or_self, true_or, or_true, and_self]; done) | (simp only [K_3 hK, qb_in, qkW, qmW, qnW, true_and, and_true, or_self, true_or, or_true, and_self]; omega)) only [zD_131, b131_0, b131_5, b131_11, b131_17, b131_23, b131_29, b131_36, b131_47, b131_55, b131_66, b131_83, b131_90, b131_106, qcall_l, qcall_r, qretn_l, qJ_s, qJ_n, qV0, qEx, ↓qif0, ↓zchk_pos, ↓reduceIte, qput, qWW, qmW, qkW, qnW, K_3 hK, co, ck, if_neg d2, if_neg d3, if_neg d4, if_pos (show 25 < t by omega)]
        · have ck := s_checkGrade_n e S g (by omega) d1
          simp (config := { maxSteps := 2000000 }) (disch := first | omega | (simp only [K_3 hK, qb_in, qkW, qmW, qnW, true_and, and_true, or_self, true_or, or_true, and_self]; done) | (simp only [K_3 hK, qb_in, qkW, qmW, qnW, true_and, and_true, or_self, true_or, or_true, and_self]; omega)) only [zD_131, b131_0, b131_5, b131_11, b131_17, b131_23, b131_29, b131_36, b131_47, b131_55, b131_66, b131_83, b131_90, b131_106, qcall_l, qcall_r, qretn_l, qJ_s, qJ_n, qV0, qEx, ↓qif0, ↓zchk_pos, ↓reduceIte, qput, qWW, qmW, qkW, qnW, K_3 hK, co, ck]
      · have i1 := r_isGrade e (zbump S) g (by omega)
        have i2 := r_in e w 18 40 (zbump S) (by omega)
        have i3 := r_in e t 3 25 (zbump S) (by omega)
        have ic := r_isCode' e (zbump S) c (by omega) hKb hC.2.1
        rw [qb_p (show 0 ≤ c ∧ c ≤ zm (zbump S) 37 4 - 1 by show 0 ≤ c ∧ c ≤ zm S 37 4 - 1; omega)] at ic
        have hd := r_refuse e S 2 (by omega) hK (by decide)
        by_cases d1 : 0 ≤ g ∧ g ≤ 3
        · rw [qb_p d1] at i1
          by_cases d2 : 18 ≤ w ∧ w ≤ 40
          · rw [qb_p d2] at i2
            rw [qb_n (fun z => c2 ⟨d1, d2, z⟩)] at i3
            simp (config := { maxSteps := 2000000 }) (disch := first | omega | (simp only [K_37 hKb, qb_in, qkW, qmW, qnW, true_and, and_true, or_self, true_or, or_true, and_self]; done) | (simp only [K_37 hKb, qb_in, qkW, qmW, qnW, true_and, and_true, or_self, true_or, or_true, and_self]; omega)) only [zD_253, b253_0, b253_4, b253_7, b253_15, b253_18, b253_26, b253_29, b253_33, b253_34, b253_42, b253_45, b253_49, b253_54, b253_58, b253_66, b253_70, b253_71, b253_74, b253_77, b253_79, b253_97, b253_113, b253_131, b253_147, qcall_l, qcall_r, qretn_l, qJ_s, qJ_n, qV0, qEx, ↓qif0, ↓zchk_pos, ↓reduceIte, qput, qWW, qmW, qkW, qnW, K_37 hKb, i1, i2, i3, ic, hd, Int.reduceEq]
            rfl
          · rw [qb_n d2] at i2
            simp (config := { maxSteps := 2000000 }) (disch := first | omega | (simp only [K_37 hKb, qb_in, qkW, qmW, qnW, true_and, and_true, or_self, true_or, or_true, and_self]; done) | (simp only [K_37 hKb, qb_in, qkW, qmW, qnW, true_and, and_true, or_self, true_or, or_true, and_self]; omega)) only [zD_253, b253_0, b253_4, b253_7, b253_15, b253_18, b253_26, b253_29, b253_33, b253_34, b253_42, b253_45, b253_49, b253_54, b253_58, b253_66, b253_70, b253_71, b253_74, b253_77, b253_79, b253_97, b253_113, b253_131, b253_147, qcall_l, qcall_r, qretn_l, qJ_s, qJ_n, qV0, qEx, ↓qif0, ↓zchk_pos, ↓reduceIte, qput, qWW, qmW, qkW, qnW, K_37 hKb, i1, i2, ic, hd, Int.reduceEq]
            rfl
        · rw [qb_n d1] at i1
          simp (config := { maxSteps := 2000000 }) (disch := first | omega | (simp only [K_37 hKb, qb_in, qkW, qmW, qnW, true_and, and_true, or_self, true_or, or_true, and_self]; done) | (simp only [K_37 hKb, qb_in, qkW, qmW, qnW, true_and, and_true, or_self, true_or, or_true, and_self]; omega)) only [zD_253, b253_0, b253_4, b253_7, b253_15, b253_18, b253_26, b253_29, b253_33, b253_34, b253_42, b253_45, b253_49, b253_54, b253_58, b253_66, b253_70, b253_71, b253_74, b253_77, b253_79, b253_97, b253_113, b253_131, b253_147, qcall_l, qcall_r, qretn_l, qJ_s, qJ_n, qV0, qEx, ↓qif0, ↓zchk_pos, ↓reduceIte, qput, qWW, qmW, qkW, qnW, K_37 hKb, i1, ic, hd, Int.reduceEq]
          rfl
  · exact qUn_no (q_book_n (e + 1) S c g w t b (by omega) hK hC c1) hQ0
