/-! The questions that lay a book out, once more. -/
theorem q_at5 (d : Nat) (S : zS) (b p l c : Int) (h : 15 ≤ d) (hH : qHC S) :
    qUn vi qid (qG5 S) S (zD d 135 [vr 3, vi b, vi p, vi l, vi c] S) (zD d 273 [vr 37, vi b, vi p, vi l, vi c]) qpsF := by
  obtain ⟨⟨⟨hK, hP, hL, hn⟩, ⟨hT, hC, hR, hk⟩, hPo, hY⟩, hBB⟩ := id hH.1
  by_cases c1 : 0 ≤ b ∧ b < zm S 37 16
  · obtain ⟨e, rfl, he⟩ := qd h
    have hs := hY.2.1 b c1.1 c1.2
    obtain ⟨⟨a1, a2, a3, a4, a5⟩, -, -, ⟨x3, wr⟩, ⟨x4, tr⟩, -, -, -, x8, -⟩ := id hs
    have bo := s_bookOf_y e S b (by omega) hK hP hY.1 c1
    obtain ⟨J, fL, fE, fA, fU, fM, P, ll, w0, -⟩ := hBB b c1.1 c1.2
    obtain ⟨Pr, x9, -⟩ := qB0_P w0 wr.1 tr
    have hbn : b < 4 := by have := hY.1.2; omega
    have cp := s_checkPlace e S (zm S 8 b) _ _ _ p l c (by omega) a1 x3 x4 x9
    by_cases c2 : (0 ≤ p ∧ p < P) ∧ (0 ≤ l ∧ l < zm S 52 b) ∧ (0 ≤ c ∧ c < zm S 51 b)
    · rw [if_pos c2] at cp
      have cc := s_cellAt e S (zm S 8 b) _ _ p l c (by omega) a1 a3 x3 x4 x8 wr tr (by omega) c2.2.1 c2.2.2
      obtain ⟨v, hv⟩ : ∃ v, zm S (zm S 8 b + 2) ((p * zm S 52 b + l) * zm S 51 b + c) = v := ⟨_, rfl⟩
      rw [hv] at cc
      refine qUn_k5 hH v ?_ (fun m1 k1 H1 => ?_)
      · simp (config := { maxSteps := 2000000 }) (disch := first | omega | (simp only [K_3 hK, a1, qb_in, qkW, qmW, qnW, true_and, and_true, or_self, true_or, or_true, and_self]; done) | (simp only [K_3 hK, a1, qb_in, qkW, qmW, qnW, true_and, and_true, or_self, true_or, or_true, and_self]; omega)) only [zD_135, b135_0, b135_5, b135_16, b135_25, qcall_l, qcall_r, qretn_l, qJ_s, qJ_n, qV0, qEx, ↓qif0, ↓zchk_pos, ↓reduceIte, qput, qWW, qmW, qkW, qnW, K_3 hK, bo, cp, a1, cc]
      · have k37 : m1 37 = zm S 37 := k1 37 (by decide)
        have hb1 : 0 ≤ b ∧ b < m1 37 16 := by rw [k37]; exact c1
        have ib := r_isbook_y e (qW S m1) b (by omega) hK H1.1.2.2.1.2 hb1
        obtain ⟨m2, r2, f2, H2, l2⟩ := r_isPlace e (qW S m1) b p l c (by omega) H1 hb1
        have e1 : ∀ z, z ≠ 102 → zm (qW S m1) z = zm S z := k1
        rw [e1 8 (by decide), e1 (zm S 8 b) (by omega), e1 51 (by decide), e1 52 (by decide), x9, qb_p c2] at r2
        have r2 : zD e 272 [vr 37, vi b, vi p, vi l, vi c] (qW S m1) = some (.inl (some (vi 1)), qW S m2) := r2
        have hd := r_hold0 e S m2 (by omega) hK
        have H3 := qHB_0 H2 0
        obtain ⟨m3, hm3⟩ : ∃ m3, qu m2 37 0 0 = m3 := ⟨_, rfl⟩
        have f3 : qF0 m1 m3 := by rw [← hm3]; exact qF0_t (qF0_l f2) (qF0_u m2 0)
        have n0 : m3 37 0 = 0 := by rw [← hm3, qu_s]
        have l3 : qLd (qW S m3) b := by
          obtain ⟨y1, y2⟩ := l2
          refine ⟨?_, ?_⟩
          · show m3 37 50 = b
            rw [← hm3, qu_i _ _ _ _ _ (by decide)]
            exact y1
          · show m3 37 51 = m3 54 b
            rw [← hm3, qu_i _ _ _ _ _ (by decide), qu_o _ _ _ _ _ (by decide)]
            exact y2
        have H3 : qHB1 (qW S (qu m2 37 0 0)) := H3
        rw [hm3] at hd H3
        obtain ⟨g1, g2, -, g4⟩ := qF0_b k1 f3
        have n16 : m3 37 16 = zm S 37 16 := g4 16 (by unfold qfly; omega)
        obtain ⟨J', gL, gE, gA, gU, gM, P', ll', v0, v1⟩ := qBB_l (H3.2 b c1.1 (by show b < m3 37 16; rw [n16]; exact c1.2)) l3
        have q8 : zm (qW S m3) 8 = zm S 8 := g1 8 (by decide) (by decide)
        have q51 : zm (qW S m3) 51 = zm S 51 := g1 51 (by decide) (by decide)
        have q52 : zm (qW S m3) 52 = zm S 52 := g1 52 (by decide) (by decide)
        have qx : zm (qW S m3) (zm S 8 b) = zm S (zm S 8 b) := g2 _ (by omega) (by omega)
        have qc : zm (qW S m3) (zm S 8 b + 2) = zm S (zm S 8 b + 2) := g2 _ (by omega) (by omega)
        rw [q8] at v0
        rw [q51, q52] at v0 v1
        obtain ⟨Pr', x9', zk'⟩ := qB0_P v0 wr.1 tr
        have hPP : P' = P := by rw [← x9', ← x9, qx]
        have ca := r_cellAt e (qW S m3) b (zm S 8 b) (zm S 51 b) (zm S 52 b) P' ll' _ _ p l c _ (by omega) hK H3.1.1.2.1 ⟨c1.1, hbn⟩ (by rw [q51]) (by rw [q52]) wr tr v1.1 v0.2.2 zk' (by have := v0.1.2.1; omega) (by have := v0.1.2.1; omega) (by rw [hPP]; exact c2.1) c2.2.1 c2.2.2
        rw [qc, hv] at ca
        refine ⟨m3, ?_, f3, n0, H3, q50_l l3.1 c1⟩
        simp (config := { maxSteps := 2000000 }) (disch := first | omega | (simp only [K_37 hK, qb_in, qkW, qmW, qnW, true_and, and_true, or_self, true_or, or_true, and_self]; done) | (simp only [K_37 hK, qb_in, qkW, qmW, qnW, true_and, and_true, or_self, true_or, or_true, and_self]; omega)) only [zD_273, b273_0, b273_6, b273_9, b273_18, b273_21, b273_25, b273_26, b273_29, b273_32, b273_34, b273_43, qcall_l, qcall_r, qretn_l, qJ_s, qJ_n, qV0, qEx, ↓qif0, ↓zchk_pos, ↓reduceIte, qput, qWW, qmW, qkW, qnW, K_37 hK, ib, r2, hd, ca, Int.reduceEq]
    · rw [if_neg c2] at cp
      refine qUn_x5 hH 2 ?_ (by decide) ?_
      · simp (config := { maxSteps := 2000000 }) (disch := first | omega | (simp only [K_3 hK, qb_in, qkW, qmW, qnW, true_and, and_true, or_self, true_or, or_true, and_self]; done) | (simp only [K_3 hK, qb_in, qkW, qmW, qnW, true_and, and_true, or_self, true_or, or_true, and_self]; omega)) only [zD_135, b135_0, b135_5, b135_16, b135_25, qcall_l, qcall_r, qretn_l, qJ_s, qJ_n, qV0, qEx, ↓qif0, ↓zchk_pos, ↓reduceIte, qput, qWW, qmW, qkW, qnW, K_3 hK, bo, cp]
      · have hKb : qK (zbump S) := hK
        have hHb : qHB1 (zbump S) := qHB1_0 hH.1
        have ib := r_isbook_y e (zbump S) b (by omega) hK hY.1.2 c1
        obtain ⟨m2, r2, f2, H2, l2⟩ := r_isPlace e (zbump S) b p l c (by omega) hHb c1
        rw [qb_n (show ¬ ((0 ≤ p ∧ p < zm (zbump S) (zm (zbump S) 8 b) 9) ∧ (0 ≤ l ∧ l < zm (zbump S) 52 b) ∧ (0 ≤ c ∧ c < zm (zbump S) 51 b)) from fun q => c2 ⟨⟨q.1.1, by have := q.1.2; rw [← x9]; exact this⟩, q.2⟩)] at r2
        have hd := r_holdn e (zbump S) m2 1 (by omega) hK (by decide)
        refine ⟨qu m2 37 0 1, ?_, qF0_t (qF0_l f2) (qF0_u m2 1), qu_s _ _ _ _, qHB_0 (S := S) H2 1, q50_l (b := b) (by rw [qu_i _ _ _ _ _ (by decide)]; exact l2.1) c1⟩
        simp (config := { maxSteps := 2000000 }) (disch := first | omega | (simp only [K_37 hKb, qb_in, qkW, qmW, qnW, true_and, and_true, or_self, true_or, or_true, and_self]; done) | (simp only [K_37 hKb, qb_in, qkW, qmW, qnW, true_and, and_true, or_self, true_or, or_true, and_self]; omega)) only [zD_273, b273_0, b273_6, b273_9, b273_18, b273_21, b273_25, b273_26, b273_29, b273_32, b273_34, b273_43, qcall_l, qcall_r, qretn_l, qJ_s, qJ_n, qV0, qEx, ↓qif0, ↓zchk_pos, ↓reduceIte, qput, qWW, qmW, qkW, qnW, K_37 hKb, ib, r2, hd, Int.reduceEq]
        rfl
  · exact qUn_n5 hH (q_at_n d S b p l c (by omega) hK hY.1 c1)
theorem q_word5 (d : Nat) (S : zS) (b j a : Int) (h : 15 ≤ d) (hH : qHC S) :
    qUn vi qid (qG5 S) S (zD d 133 [vr 3, vi b, vi j, vi a] S) (zD d 268 [vr 37, vi b, vi j, vi a]) qpsD := by
  obtain ⟨⟨⟨⟨hK, hP, hL, hn⟩, ⟨hT, hC, hR, hk⟩, hPo, hY⟩, hBB⟩, hYC, hFc⟩ := id hH
  by_cases c1 : 0 ≤ b ∧ b < zm S 37 16
  · obtain ⟨e, rfl, he⟩ := qd h
    obtain ⟨⟨a1, a2, a3, a4, a5⟩, -, -, ⟨x3, wr⟩, ⟨x4, tr⟩, -, x6, ⟨x7, n0, n80⟩, x8, -⟩ := hY.2.1 b c1.1 c1.2
    have bo := s_bookOf_y e S b (by omega) hK hP hY.1 c1
    have hKb : qK (zbump S) := hK
    have hbn : b < 4 := by have := hY.1.2; omega
    have p22 := P_37_22 hP
    have ibb := r_isbook_y e (zbump S) b (by omega) hKb hY.1.2 c1
    have z1 : z32 (zm S 54 b - 1) = zm S 54 b - 1 := q32 (by omega)
    have i1b := r_in e j 0 (zm S 54 b - 1) (zbump S) (by omega)
    by_cases c2 : 0 ≤ j ∧ j < zm S 54 b
    · rw [qb_p (show 0 ≤ j ∧ j ≤ zm S 54 b - 1 by omega)] at i1b
      obtain ⟨J, fL, fE, fA, fU, fM, P, ll, w0, -⟩ := hBB b c1.1 c1.2
      obtain ⟨w1, -⟩ := w0.2.1 j.toNat (by have := w0.1.1; omega)
      rw [show ((j.toNat : Nat) : Int) = j by omega] at w1
      obtain ⟨⟨⟨ky, -, -, ky3, -, -⟩, ⟨y0, -, y1, -, -⟩, y103, yn⟩, -⟩ := qWw_b w1
      clear w0 w1
      obtain ⟨y, hy⟩ : ∃ y, zm S (zm S 8 b + 1) j = y := ⟨_, rfl⟩
      rw [hy] at ky ky3 y0 y1 y103 yn
      by_cases c3 : 0 ≤ a ∧ a ≤ 7
      · -- the reference, up to its answer
        have ref : ∀ (m1 : Int → Int → Int), (∀ z, z ≠ 102 → m1 z = zm S z) → qHB1 (qW S m1) → ∃ m3, qF0 m1 m3 ∧ m3 37 0 = 0 ∧ (qHB1 (qW S m3) ∧ q50 S m3) ∧ zD (e + 1) 268 [vr 37, vi b, vi j, vi a] (qW S m1) = zF_268 e 69 [vr 37, vi b, vi j, vi a, vu, vu] [] (qW S m3) ∧ m3 52 b = zm S 52 b ∧ (m3 73 j = (zm S y 2) * (zm S 52 b - 1) + (zm S y 3 - 1) ∧ 0 ≤ zm S y 2 ∧ zm S y 2 < 1000 ∧ 0 ≤ zm S y 3 - 1 ∧ zm S y 3 - 1 < zm S 52 b - 1) ∧ m3 74 j = zm S y 4 ∧ m3 75 j = zm S y 5 ∧ m3 76 j = zm S (y + 3) 1 ∧ m3 78 j = zm S (y + 3) 3 ∧ m3 79 j = zm S (y + 3) 2 ∧ m3 80 j = zm S y 6 := by
          intro m1 k1 H1
          have k37 : m1 37 = zm S 37 := k1 37 (by decide)
          have hb1 : 0 ≤ b ∧ b < m1 37 16 := by rw [k37]; exact c1
          have ib := r_isbook_y e (qW S m1) b (by omega) hK H1.1.2.2.1.2 hb1
          have e54 : m1 54 = zm S 54 := k1 54 (by decide)
          have q22 : m1 37 22 = 54 := by rw [k37, p22]
          have i1 := r_in e j 0 (zm S 54 b - 1) (qW S m1) (by omega)
          rw [qb_p (show 0 ≤ j ∧ j ≤ zm S 54 b - 1 by omega)] at i1
          have i2 := r_in e a 0 7 (qW S m1) (by omega)
          rw [qb_p c3] at i2
          have hd := r_hold0 e S m1 (by omega) hK
          have H2 := qHB_0 H1 0
          obtain ⟨m2, hm2⟩ : ∃ m2, qu m1 37 0 0 = m2 := ⟨_, rfl⟩
          have H2 : qHB1 (qW S (qu m1 37 0 0)) := H2
          rw [hm2] at hd H2
          have f2 : qF0 m1 m2 := by rw [← hm2]; exact qF0_u m1 0
          have n16 : m2 37 16 = zm S 37 16 := by rw [← hm2, qu_i _ _ _ _ _ (by decide), k37]
          obtain ⟨m3, r3, f3, l3, H3⟩ := q_lays e (qW S m2) b (by omega) H2.1 H2.2 (by show 0 ≤ b ∧ b < m2 37 16; rw [n16]; exact c1)
          have f13 : qF0 m1 m3 := qF0_t f2 (qF0_l f3)
          have h30 : m3 37 0 = 0 := by
            rw [show m3 37 0 = m2 37 0 from f3 37 0 (by unfold qfly; omega), ← hm2, qu_s]
          obtain ⟨g1, g2, -, g4⟩ := qF0_b k1 f13
          have m16 : m3 37 16 = zm S 37 16 := g4 16 (by unfold qfly; omega)
          have H3' : qHB1 (qW S m3) := ⟨qH1_x (S := qW S m2) H2.1 (qFly_x (S := qW S m2) f3), fun b' b1 b2 => H3 b' b1 (by show b' < m2 37 16; rw [n16]; have b2 : b' < m3 37 16 := b2; rw [m16] at b2; exact b2)⟩
          obtain ⟨J', gL, gE, gA, gU, gM, P', ll', v0, v1⟩ := qBB_l (H3'.2 b c1.1 (by show b < m3 37 16; rw [m16]; exact c1.2)) l3
          have q8 : zm (qW S m3) 8 = zm S 8 := g1 8 (by decide) (by decide)
          have q51 : zm (qW S m3) 51 = zm S 51 := g1 51 (by decide) (by decide)
          have q52 : zm (qW S m3) 52 = zm S 52 := g1 52 (by decide) (by decide)
          have q54 : zm (qW S m3) 54 = zm S 54 := g1 54 (by decide) (by decide)
          have qx1 : zm (qW S m3) (zm S 8 b + 1) = zm S (zm S 8 b + 1) := g2 _ (by omega) (by omega)
          have qy : zm (qW S m3) y = zm S y := g2 _ (by omega) (by omega)
          have qy3 : zm (qW S m3) (y + 3) = zm S (y + 3) := g2 _ (by omega) (by omega)
          rw [q8] at v0
          rw [q51, q52] at v0 v1
          have hJ := v0.1.1
          rw [q54] at hJ
          have J80 := v0.1.2.1
          obtain ⟨u1, u2⟩ := v0.2.1 j.toNat (by omega)
          have u3 := v1.2.1 j.toNat (by omega)
          have zkj := (qZn_f (t := zm S 52 b) wr.1 (qB_J v0) v0.1.2.2 j.toNat (by omega)).1
          rw [show ((j.toNat : Nat) : Int) = j by omega] at u1 u2 u3 zkj
          rw [qx1, hy] at u1 u2
          have u4 := (qWw_b u1).2
          obtain ⟨pp, l, ⟨t1, t2, t3, t4⟩, t5, t6, t7, t8, t9⟩ := u2
          obtain ⟨s1, s2, s3, s4, s5, s6, s7, s8⟩ := u3
          obtain ⟨-, -, o1, o2, o3, -⟩ := u4
          rw [qy] at t5 t6 t7 t8 t9
          rw [qy3] at o1 o2 o3
          have pb : pp < 1000 := by
            have zf := (qZ0_f (t := zm S 52 b) zkj wr.1 (qB_J v0 j.toNat (by omega)) (qZn_0 (t := zm S 52 b) wr.1 (qB_J v0) v0.1.2.2 j.toNat (by omega))).1.1.2
            have zf : (qZp (zm S 51 b) (zm S 52 b) gL gE gA j.toNat).1.1 ≤ if qlp (gL j.toNat) (gE j.toNat) (qZp (zm S 51 b) (zm S 52 b) gL gE gA j.toNat).2 < (gL j.toNat).length then 3 * j else 3 * j + 3 := zf
            have m1 : (pp - 1) * 1 ≤ (pp - 1) * (zm S 52 b - 1) := Int.mul_le_mul_of_nonneg_left (by omega) (by omega)
            split at zf <;> omega
          refine ⟨m3, f13, h30, ⟨H3', q50_l l3.1 c1⟩, ?_, congrFun q52 b, ⟨by rw [t5, t6]; exact s1.trans (by omega), by omega, by omega, by omega, by omega⟩, by rw [t7]; exact s2, by rw [t8]; exact s3, by rw [o1]; exact s4, by rw [o3]; exact s6, by rw [o2]; exact s7, by rw [t9]; exact s8⟩
          simp (config := { maxSteps := 2000000 }) (disch := first | omega | (simp only [K_37 hK, K_54 hK, q22, qb_in, qkW, qmW, qnW, true_and, and_true, or_self, true_or, or_true, and_self]; done) | (simp only [K_37 hK, K_54 hK, q22, qb_in, qkW, qmW, qnW, true_and, and_true, or_self, true_or, or_true, and_self]; omega)) only [zD_268, b268_0, b268_5, b268_8, b268_21, b268_24, b268_28, b268_29, b268_37, b268_41, b268_48, b268_51, b268_55, b268_56, b268_59, b268_62, b268_64, b268_84, b268_88, b268_97, b268_102, b268_111, b268_115, b268_119, b268_124, b268_136, b268_147, b268_148, b268_153, b268_162, b268_167, b268_176, b268_182, b268_191, b268_197, qcall_l, qcall_r, qretn_l, qJ_s, qJ_n, qV0, qEx, ↓qif0, ↓zchk_pos, ↓reduceIte, qput, qWW, qmW, qkW, qnW, K_37 hK, K_54 hK, ib, q22, e54, z1, i1, i2, hd, r3, Int.reduceEq]
        have hcase : a = 0 ∨ a = 1 ∨ a = 2 ∨ a = 3 ∨ a = 4 ∨ a = 5 ∨ a = 6 ∨ a = 7 := by omega
        have mk01 : zm S (y + 3) 2 = 0 ∨ zm S (y + 3) 2 = 1 := by
          obtain ⟨J, fL, fE, fA, fU, fM, P, ll, w0, -⟩ := hBB b c1.1 c1.2
          obtain ⟨w1, -⟩ := w0.2.1 j.toNat (by have := w0.1.1; omega)
          rw [show ((j.toNat : Nat) : Int) = j by omega, hy] at w1
          obtain ⟨-, -, -, o2, -⟩ := (qWw_b w1).2
          obtain ⟨W, dg, st, bg, mk, c, N, g, T, p, ⟨-, -, -, -, -, -, hM, -⟩, -⟩ := w1
          rw [o2, hM]
          have := qwM_r (T := T) (N := N) (g := g) (P := p) (dg := dg) (W := W)
          omega
        rcases hcase with rfl | rfl | rfl | rfl | rfl | rfl | rfl | rfl
        · refine qUn_k5 hH (zm S (y + 3) 1) ?_ (fun m1 k1 H1 => ?_)
          · simp (config := { maxSteps := 2000000 }) (disch := first | omega | (simp only [K_3 hK, a1, a2, x6, ky, y1, ky3, qb_in, qkW, qmW, qnW, true_and, and_true, or_self, true_or, or_true, and_self]; done) | (simp only [K_3 hK, a1, a2, x6, ky, y1, ky3, qb_in, qkW, qmW, qnW, true_and, and_true, or_self, true_or, or_true, and_self]; omega)) only [zD_133, b133_0, b133_5, b133_11, b133_20, b133_31, b133_88, b133_97, b133_108, b133_112, b133_113, b133_114, b133_120, b133_126, b133_132, b133_138, b133_144, b133_153, i133, w133_41, qcall_l, qcall_r, qretn_l, qJ_s, qJ_n, qV0, qEx, ↓qif0, ↓zchk_pos, ↓reduceIte, qput, qWW, qmW, qkW, qnW, K_3 hK, bo, if_neg (show ¬ j < 0 by omega), a1, a2, x6, x7, if_pos c2.2, hy, w133_41, Int.reduceEq, ky, y1, ky3]
          · obtain ⟨m3, f13, h30, H3, r, n52, ⟨n73, dv⟩, n74, n75, n76, n78, n79, n80_⟩ := ref m1 k1 H1
            refine ⟨m3, ?_, f13, h30, H3⟩
            have p20 : m3 37 20 = 52 := P_37_20 H3.1.1.1.2.1
            have pp : m3 37 58 = 76 := P_37_58 H3.1.1.1.2.1
            have z2 : z32 (zm S 52 b - 1) = zm S 52 b - 1 := q32 (by omega)
            rw [r, b268_69]
            simp (config := { maxSteps := 2000000 }) (disch := first | omega | (simp only [K_37 hK, K_52 hK, K_76 hK, p20, pp, qb_in, qkW, qmW, qnW, true_and, and_true, or_self, true_or, or_true, and_self]; done) | (simp only [K_37 hK, K_52 hK, K_76 hK, p20, pp, qb_in, qkW, qmW, qnW, true_and, and_true, or_self, true_or, or_true, and_self]; omega)) only [b268_0, b268_5, b268_8, b268_21, b268_24, b268_28, b268_29, b268_37, b268_41, b268_48, b268_51, b268_55, b268_56, b268_59, b268_62, b268_64, b268_69, b268_84, b268_88, b268_97, b268_102, b268_111, b268_115, b268_119, b268_124, b268_136, b268_147, b268_148, b268_153, b268_162, b268_167, b268_176, b268_182, b268_191, b268_197, qcall_l, qcall_r, qretn_l, qJ_s, qJ_n, qV0, qEx, ↓qif0, ↓zchk_pos, ↓reduceIte, qput, qWW, qmW, qkW, qnW, K_37 hK, K_52 hK, K_76 hK, p20, pp, n52, z2, Int.reduceLT, Int.reduceEq, n76]
        · refine qUn_k5 hH (if zm S (y + 3) 2 = 0 then 0 else 1) ?_ (fun m1 k1 H1 => ?_)
          · rcases mk01 with q | q
            · rw [if_pos q]
              simp (config := { maxSteps := 2000000 }) (disch := first | omega | (simp only [K_3 hK, a1, a2, x6, ky, y1, ky3, qb_in, qkW, qmW, qnW, true_and, and_true, or_self, true_or, or_true, and_self]; done) | (simp only [K_3 hK, a1, a2, x6, ky, y1, ky3, qb_in, qkW, qmW, qnW, true_and, and_true, or_self, true_or, or_true, and_self]; omega)) only [zD_133, b133_0, b133_5, b133_11, b133_20, b133_31, b133_88, b133_97, b133_108, b133_112, b133_113, b133_114, b133_120, b133_126, b133_132, b133_138, b133_144, b133_153, i133, w133_41, qcall_l, qcall_r, qretn_l, qJ_s, qJ_n, qV0, qEx, ↓qif0, ↓zchk_pos, ↓reduceIte, qput, qWW, qmW, qkW, qnW, K_3 hK, bo, if_neg (show ¬ j < 0 by omega), a1, a2, x6, x7, if_pos c2.2, hy, w133_41, Int.reduceEq, ky, y1, ky3, q]
            · rw [if_neg (show ¬ zm S (y + 3) 2 = 0 by omega)]
              simp (config := { maxSteps := 2000000 }) (disch := first | omega | (simp only [K_3 hK, a1, a2, x6, ky, y1, ky3, qb_in, qkW, qmW, qnW, true_and, and_true, or_self, true_or, or_true, and_self]; done) | (simp only [K_3 hK, a1, a2, x6, ky, y1, ky3, qb_in, qkW, qmW, qnW, true_and, and_true, or_self, true_or, or_true, and_self]; omega)) only [zD_133, b133_0, b133_5, b133_11, b133_20, b133_31, b133_88, b133_97, b133_108, b133_112, b133_113, b133_114, b133_120, b133_126, b133_132, b133_138, b133_144, b133_153, i133, w133_41, qcall_l, qcall_r, qretn_l, qJ_s, qJ_n, qV0, qEx, ↓qif0, ↓zchk_pos, ↓reduceIte, qput, qWW, qmW, qkW, qnW, K_3 hK, bo, if_neg (show ¬ j < 0 by omega), a1, a2, x6, x7, if_pos c2.2, hy, w133_41, Int.reduceEq, ky, y1, ky3, q]
          · obtain ⟨m3, f13, h30, H3, r, n52, ⟨n73, dv⟩, n74, n75, n76, n78, n79, n80_⟩ := ref m1 k1 H1
            refine ⟨m3, ?_, f13, h30, H3⟩
            have p20 : m3 37 20 = 52 := P_37_20 H3.1.1.1.2.1
            have pp : m3 37 61 = 79 := P_37_61 H3.1.1.1.2.1
            have z2 : z32 (zm S 52 b - 1) = zm S 52 b - 1 := q32 (by omega)
            rw [r, b268_69]
            rcases mk01 with q | q
            · rw [if_pos q]
              simp (config := { maxSteps := 2000000 }) (disch := first | omega | (simp only [K_37 hK, K_52 hK, K_79 hK, p20, pp, qb_in, qkW, qmW, qnW, true_and, and_true, or_self, true_or, or_true, and_self]; done) | (simp only [K_37 hK, K_52 hK, K_79 hK, p20, pp, qb_in, qkW, qmW, qnW, true_and, and_true, or_self, true_or, or_true, and_self]; omega)) only [b268_0, b268_5, b268_8, b268_21, b268_24, b268_28, b268_29, b268_37, b268_41, b268_48, b268_51, b268_55, b268_56, b268_59, b268_62, b268_64, b268_69, b268_84, b268_88, b268_97, b268_102, b268_111, b268_115, b268_119, b268_124, b268_136, b268_147, b268_148, b268_153, b268_162, b268_167, b268_176, b268_182, b268_191, b268_197, qcall_l, qcall_r, qretn_l, qJ_s, qJ_n, qV0, qEx, ↓qif0, ↓zchk_pos, ↓reduceIte, qput, qWW, qmW, qkW, qnW, K_37 hK, K_52 hK, K_79 hK, p20, pp, n52, z2, Int.reduceLT, Int.reduceEq, n79, q]
            · rw [if_neg (show ¬ zm S (y + 3) 2 = 0 by omega)]
              simp (config := { maxSteps := 2000000 }) (disch := first | omega | (simp only [K_37 hK, K_52 hK, K_79 hK, p20, pp, qb_in, qkW, qmW, qnW, true_and, and_true, or_self, true_or, or_true, and_self]; done) | (simp only [K_37 hK, K_52 hK, K_79 hK, p20, pp, qb_in, qkW, qmW, qnW, true_and, and_true, or_self, true_or, or_true, and_self]; omega)) only [b268_0, b268_5, b268_8, b268_21, b268_24, b268_28, b268_29, b268_37, b268_41, b268_48, b268_51, b268_55, b268_56, b268_59, b268_62, b268_64, b268_69, b268_84, b268_88, b268_97, b268_102, b268_111, b268_115, b268_119, b268_124, b268_136, b268_147, b268_148, b268_153, b268_162, b268_167, b268_176, b268_182, b268_191, b268_197, qcall_l, qcall_r, qretn_l, qJ_s, qJ_n, qV0, qEx, ↓qif0, ↓zchk_pos, ↓reduceIte, qput, qWW, qmW, qkW, qnW, K_37 hK, K_52 hK, K_79 hK, p20, pp, n52, z2, Int.reduceLT, Int.reduceEq, n79, q]
        · refine qUn_k5 hH (zm S y 2) ?_ (fun m1 k1 H1 => ?_)
          · simp (config := { maxSteps := 2000000 }) (disch := first | omega | (simp only [K_3 hK, a1, a2, x6, ky, y1, ky3, qb_in, qkW, qmW, qnW, true_and, and_true, or_self, true_or, or_true, and_self]; done) | (simp only [K_3 hK, a1, a2, x6, ky, y1, ky3, qb_in, qkW, qmW, qnW, true_and, and_true, or_self, true_or, or_true, and_self]; omega)) only [zD_133, b133_0, b133_5, b133_11, b133_20, b133_31, b133_88, b133_97, b133_108, b133_112, b133_113, b133_114, b133_120, b133_126, b133_132, b133_138, b133_144, b133_153, i133, w133_41, qcall_l, qcall_r, qretn_l, qJ_s, qJ_n, qV0, qEx, ↓qif0, ↓zchk_pos, ↓reduceIte, qput, qWW, qmW, qkW, qnW, K_3 hK, bo, if_neg (show ¬ j < 0 by omega), a1, a2, x6, x7, if_pos c2.2, hy, w133_41, Int.reduceEq, ky, y1, ky3]
          · obtain ⟨m3, f13, h30, H3, r, n52, ⟨n73, dv⟩, n74, n75, n76, n78, n79, n80_⟩ := ref m1 k1 H1
            refine ⟨m3, ?_, f13, h30, H3⟩
            have p20 : m3 37 20 = 52 := P_37_20 H3.1.1.1.2.1
            have pp : m3 37 55 = 73 := P_37_55 H3.1.1.1.2.1
            have z2 : z32 (zm S 52 b - 1) = zm S 52 b - 1 := q32 (by omega)
            rw [r, b268_69]
            have td : Int.tdiv (zm S y 2 * (zm S 52 b - 1) + (zm S y 3 - 1)) (zm S 52 b - 1) = zm S y 2 := by
              rw [Int.tdiv_eq_ediv_of_nonneg (by have := Int.mul_nonneg dv.1 (show 0 ≤ zm S 52 b - 1 by omega); omega)]
              exact (qdmod ⟨dv.2.2.1, dv.2.2.2⟩).2
            have z3 : z32 (zm S y 2) = zm S y 2 := q32 (by omega)
            simp (config := { maxSteps := 2000000 }) (disch := first | omega | (simp only [K_37 hK, K_52 hK, K_73 hK, p20, pp, qb_in, qkW, qmW, qnW, true_and, and_true, or_self, true_or, or_true, and_self]; done) | (simp only [K_37 hK, K_52 hK, K_73 hK, p20, pp, qb_in, qkW, qmW, qnW, true_and, and_true, or_self, true_or, or_true, and_self]; omega)) only [b268_0, b268_5, b268_8, b268_21, b268_24, b268_28, b268_29, b268_37, b268_41, b268_48, b268_51, b268_55, b268_56, b268_59, b268_62, b268_64, b268_69, b268_84, b268_88, b268_97, b268_102, b268_111, b268_115, b268_119, b268_124, b268_136, b268_147, b268_148, b268_153, b268_162, b268_167, b268_176, b268_182, b268_191, b268_197, qcall_l, qcall_r, qretn_l, qJ_s, qJ_n, qV0, qEx, ↓qif0, ↓zchk_pos, ↓reduceIte, qput, qWW, qmW, qkW, qnW, K_37 hK, K_52 hK, K_73 hK, p20, pp, n52, z2, Int.reduceLT, Int.reduceEq, n73, td, z3]
        · refine qUn_k5 hH (zm S y 3) ?_ (fun m1 k1 H1 => ?_)
          · simp (config := { maxSteps := 2000000 }) (disch := first | omega | (simp only [K_3 hK, a1, a2, x6, ky, y1, ky3, qb_in, qkW, qmW, qnW, true_and, and_true, or_self, true_or, or_true, and_self]; done) | (simp only [K_3 hK, a1, a2, x6, ky, y1, ky3, qb_in, qkW, qmW, qnW, true_and, and_true, or_self, true_or, or_true, and_self]; omega)) only [zD_133, b133_0, b133_5, b133_11, b133_20, b133_31, b133_88, b133_97, b133_108, b133_112, b133_113, b133_114, b133_120, b133_126, b133_132, b133_138, b133_144, b133_153, i133, w133_41, qcall_l, qcall_r, qretn_l, qJ_s, qJ_n, qV0, qEx, ↓qif0, ↓zchk_pos, ↓reduceIte, qput, qWW, qmW, qkW, qnW, K_3 hK, bo, if_neg (show ¬ j < 0 by omega), a1, a2, x6, x7, if_pos c2.2, hy, w133_41, Int.reduceEq, ky, y1, ky3]
          · obtain ⟨m3, f13, h30, H3, r, n52, ⟨n73, dv⟩, n74, n75, n76, n78, n79, n80_⟩ := ref m1 k1 H1
            refine ⟨m3, ?_, f13, h30, H3⟩
            have p20 : m3 37 20 = 52 := P_37_20 H3.1.1.1.2.1
            have pp : m3 37 55 = 73 := P_37_55 H3.1.1.1.2.1
            have z2 : z32 (zm S 52 b - 1) = zm S 52 b - 1 := q32 (by omega)
            rw [r, b268_69]
            have td : Int.tmod (zm S y 2 * (zm S 52 b - 1) + (zm S y 3 - 1)) (zm S 52 b - 1) = zm S y 3 - 1 := by
              rw [Int.tmod_eq_emod_of_nonneg (by have := Int.mul_nonneg dv.1 (show 0 ≤ zm S 52 b - 1 by omega); omega)]
              exact (qdmod ⟨dv.2.2.1, dv.2.2.2⟩).1
            have z3 : z32 (1 + (zm S y 3 - 1)) = zm S y 3 := by rw [q32 (by omega)]; omega
            simp (config := { maxSteps := 2000000 }) (disch := first | omega | (simp only [K_37 hK, K_52 hK, K_73 hK, p20, pp, qb_in, qkW, qmW, qnW, true_and, and_true, or_self, true_or, or_true, and_self]; done) | (simp only [K_37 hK, K_52 hK, K_73 hK, p20, pp, qb_in, qkW, qmW, qnW, true_and, and_true, or_self, true_or, or_true, and_self]; omega)) only [b268_0, b268_5, b268_8, b268_21, b268_24, b268_28, b268_29, b268_37, b268_41, b268_48, b268_51, b268_55, b268_56, b268_59, b268_62, b268_64, b268_69, b268_84, b268_88, b268_97, b268_102, b268_111, b268_115, b268_119, b268_124, b268_136, b268_147, b268_148, b268_153, b268_162, b268_167, b268_176, b268_182, b268_191, b268_197, qcall_l, qcall_r, qretn_l, qJ_s, qJ_n, qV0, qEx, ↓qif0, ↓zchk_pos, ↓reduceIte, qput, qWW, qmW, qkW, qnW, K_37 hK, K_52 hK, K_73 hK, p20, pp, n52, z2, Int.reduceLT, Int.reduceEq, n73, td, z3]
        · refine qUn_k5 hH (zm S y 4) ?_ (fun m1 k1 H1 => ?_)
          · simp (config := { maxSteps := 2000000 }) (disch := first | omega | (simp only [K_3 hK, a1, a2, x6, ky, y1, ky3, qb_in, qkW, qmW, qnW, true_and, and_true, or_self, true_or, or_true, and_self]; done) | (simp only [K_3 hK, a1, a2, x6, ky, y1, ky3, qb_in, qkW, qmW, qnW, true_and, and_true, or_self, true_or, or_true, and_self]; omega)) only [zD_133, b133_0, b133_5, b133_11, b133_20, b133_31, b133_88, b133_97, b133_108, b133_112, b133_113, b133_114, b133_120, b133_126, b133_132, b133_138, b133_144, b133_153, i133, w133_41, qcall_l, qcall_r, qretn_l, qJ_s, qJ_n, qV0, qEx, ↓qif0, ↓zchk_pos, ↓reduceIte, qput, qWW, qmW, qkW, qnW, K_3 hK, bo, if_neg (show ¬ j < 0 by omega), a1, a2, x6, x7, if_pos c2.2, hy, w133_41, Int.reduceEq, ky, y1, ky3]
          · obtain ⟨m3, f13, h30, H3, r, n52, ⟨n73, dv⟩, n74, n75, n76, n78, n79, n80_⟩ := ref m1 k1 H1
            refine ⟨m3, ?_, f13, h30, H3⟩
            have p20 : m3 37 20 = 52 := P_37_20 H3.1.1.1.2.1
            have pp : m3 37 56 = 74 := P_37_56 H3.1.1.1.2.1
            have z2 : z32 (zm S 52 b - 1) = zm S 52 b - 1 := q32 (by omega)
            rw [r, b268_69]
            simp (config := { maxSteps := 2000000 }) (disch := first | omega | (simp only [K_37 hK, K_52 hK, K_74 hK, p20, pp, qb_in, qkW, qmW, qnW, true_and, and_true, or_self, true_or, or_true, and_self]; done) | (simp only [K_37 hK, K_52 hK, K_74 hK, p20, pp, qb_in, qkW, qmW, qnW, true_and, and_true, or_self, true_or, or_true, and_self]; omega)) only [b268_0, b268_5, b268_8, b268_21, b268_24, b268_28, b268_29, b268_37, b268_41, b268_48, b268_51, b268_55, b268_56, b268_59, b268_62, b268_64, b268_69, b268_84, b268_88, b268_97, b268_102, b268_111, b268_115, b268_119, b268_124, b268_136, b268_147, b268_148, b268_153, b268_162, b268_167, b268_176, b268_182, b268_191, b268_197, qcall_l, qcall_r, qretn_l, qJ_s, qJ_n, qV0, qEx, ↓qif0, ↓zchk_pos, ↓reduceIte, qput, qWW, qmW, qkW, qnW, K_37 hK, K_52 hK, K_74 hK, p20, pp, n52, z2, Int.reduceLT, Int.reduceEq, n74]
        · refine qUn_k5 hH (zm S y 5) ?_ (fun m1 k1 H1 => ?_)
          · simp (config := { maxSteps := 2000000 }) (disch := first | omega | (simp only [K_3 hK, a1, a2, x6, ky, y1, ky3, qb_in, qkW, qmW, qnW, true_and, and_true, or_self, true_or, or_true, and_self]; done) | (simp only [K_3 hK, a1, a2, x6, ky, y1, ky3, qb_in, qkW, qmW, qnW, true_and, and_true, or_self, true_or, or_true, and_self]; omega)) only [zD_133, b133_0, b133_5, b133_11, b133_20, b133_31, b133_88, b133_97, b133_108, b133_112, b133_113, b133_114, b133_120, b133_126, b133_132, b133_138, b133_144, b133_153, i133, w133_41, qcall_l, qcall_r, qretn_l, qJ_s, qJ_n, qV0, qEx, ↓qif0, ↓zchk_pos, ↓reduceIte, qput, qWW, qmW, qkW, qnW, K_3 hK, bo, if_neg (show ¬ j < 0 by omega), a1, a2, x6, x7, if_pos c2.2, hy, w133_41, Int.reduceEq, ky, y1, ky3]
          · obtain ⟨m3, f13, h30, H3, r, n52, ⟨n73, dv⟩, n74, n75, n76, n78, n79, n80_⟩ := ref m1 k1 H1
            refine ⟨m3, ?_, f13, h30, H3⟩
            have p20 : m3 37 20 = 52 := P_37_20 H3.1.1.1.2.1
            have pp : m3 37 57 = 75 := P_37_57 H3.1.1.1.2.1
            have z2 : z32 (zm S 52 b - 1) = zm S 52 b - 1 := q32 (by omega)
            rw [r, b268_69]
            simp (config := { maxSteps := 2000000 }) (disch := first | omega | (simp only [K_37 hK, K_52 hK, K_75 hK, p20, pp, qb_in, qkW, qmW, qnW, true_and, and_true, or_self, true_or, or_true, and_self]; done) | (simp only [K_37 hK, K_52 hK, K_75 hK, p20, pp, qb_in, qkW, qmW, qnW, true_and, and_true, or_self, true_or, or_true, and_self]; omega)) only [b268_0, b268_5, b268_8, b268_21, b268_24, b268_28, b268_29, b268_37, b268_41, b268_48, b268_51, b268_55, b268_56, b268_59, b268_62, b268_64, b268_69, b268_84, b268_88, b268_97, b268_102, b268_111, b268_115, b268_119, b268_124, b268_136, b268_147, b268_148, b268_153, b268_162, b268_167, b268_176, b268_182, b268_191, b268_197, qcall_l, qcall_r, qretn_l, qJ_s, qJ_n, qV0, qEx, ↓qif0, ↓zchk_pos, ↓reduceIte, qput, qWW, qmW, qkW, qnW, K_37 hK, K_52 hK, K_75 hK, p20, pp, n52, z2, Int.reduceLT, Int.reduceEq, n75]
        · refine qUn_k5 hH (zm S y 6) ?_ (fun m1 k1 H1 => ?_)
          · simp (config := { maxSteps := 2000000 }) (disch := first | omega | (simp only [K_3 hK, a1, a2, x6, ky, y1, ky3, qb_in, qkW, qmW, qnW, true_and, and_true, or_self, true_or, or_true, and_self]; done) | (simp only [K_3 hK, a1, a2, x6, ky, y1, ky3, qb_in, qkW, qmW, qnW, true_and, and_true, or_self, true_or, or_true, and_self]; omega)) only [zD_133, b133_0, b133_5, b133_11, b133_20, b133_31, b133_88, b133_97, b133_108, b133_112, b133_113, b133_114, b133_120, b133_126, b133_132, b133_138, b133_144, b133_153, i133, w133_41, qcall_l, qcall_r, qretn_l, qJ_s, qJ_n, qV0, qEx, ↓qif0, ↓zchk_pos, ↓reduceIte, qput, qWW, qmW, qkW, qnW, K_3 hK, bo, if_neg (show ¬ j < 0 by omega), a1, a2, x6, x7, if_pos c2.2, hy, w133_41, Int.reduceEq, ky, y1, ky3]
          · obtain ⟨m3, f13, h30, H3, r, n52, ⟨n73, dv⟩, n74, n75, n76, n78, n79, n80_⟩ := ref m1 k1 H1
            refine ⟨m3, ?_, f13, h30, H3⟩
            have p20 : m3 37 20 = 52 := P_37_20 H3.1.1.1.2.1
            have pp : m3 37 62 = 80 := P_37_62 H3.1.1.1.2.1
            have z2 : z32 (zm S 52 b - 1) = zm S 52 b - 1 := q32 (by omega)
            rw [r, b268_69]
            simp (config := { maxSteps := 2000000 }) (disch := first | omega | (simp only [K_37 hK, K_52 hK, K_80 hK, p20, pp, qb_in, qkW, qmW, qnW, true_and, and_true, or_self, true_or, or_true, and_self]; done) | (simp only [K_37 hK, K_52 hK, K_80 hK, p20, pp, qb_in, qkW, qmW, qnW, true_and, and_true, or_self, true_or, or_true, and_self]; omega)) only [b268_0, b268_5, b268_8, b268_21, b268_24, b268_28, b268_29, b268_37, b268_41, b268_48, b268_51, b268_55, b268_56, b268_59, b268_62, b268_64, b268_69, b268_84, b268_88, b268_97, b268_102, b268_111, b268_115, b268_119, b268_124, b268_136, b268_147, b268_148, b268_153, b268_162, b268_167, b268_176, b268_182, b268_191, b268_197, qcall_l, qcall_r, qretn_l, qJ_s, qJ_n, qV0, qEx, ↓qif0, ↓zchk_pos, ↓reduceIte, qput, qWW, qmW, qkW, qnW, K_37 hK, K_52 hK, K_80 hK, p20, pp, n52, z2, Int.reduceLT, Int.reduceEq, n80_]
        · refine qUn_k5 hH (zm S (y + 3) 3) ?_ (fun m1 k1 H1 => ?_)
          · simp (config := { maxSteps := 2000000 }) (disch := first | omega | (simp only [K_3 hK, a1, a2, x6, ky, y1, ky3, qb_in, qkW, qmW, qnW, true_and, and_true, or_self, true_or, or_true, and_self]; done) | (simp only [K_3 hK, a1, a2, x6, ky, y1, ky3, qb_in, qkW, qmW, qnW, true_and, and_true, or_self, true_or, or_true, and_self]; omega)) only [zD_133, b133_0, b133_5, b133_11, b133_20, b133_31, b133_88, b133_97, b133_108, b133_112, b133_113, b133_114, b133_120, b133_126, b133_132, b133_138, b133_144, b133_153, i133, w133_41, qcall_l, qcall_r, qretn_l, qJ_s, qJ_n, qV0, qEx, ↓qif0, ↓zchk_pos, ↓reduceIte, qput, qWW, qmW, qkW, qnW, K_3 hK, bo, if_neg (show ¬ j < 0 by omega), a1, a2, x6, x7, if_pos c2.2, hy, w133_41, Int.reduceEq, ky, y1, ky3]
          · obtain ⟨m3, f13, h30, H3, r, n52, ⟨n73, dv⟩, n74, n75, n76, n78, n79, n80_⟩ := ref m1 k1 H1
            refine ⟨m3, ?_, f13, h30, H3⟩
            have p20 : m3 37 20 = 52 := P_37_20 H3.1.1.1.2.1
            have pp : m3 37 60 = 78 := P_37_60 H3.1.1.1.2.1
            have z2 : z32 (zm S 52 b - 1) = zm S 52 b - 1 := q32 (by omega)
            rw [r, b268_69]
            simp (config := { maxSteps := 2000000 }) (disch := first | omega | (simp only [K_37 hK, K_52 hK, K_78 hK, p20, pp, qb_in, qkW, qmW, qnW, true_and, and_true, or_self, true_or, or_true, and_self]; done) | (simp only [K_37 hK, K_52 hK, K_78 hK, p20, pp, qb_in, qkW, qmW, qnW, true_and, and_true, or_self, true_or, or_true, and_self]; omega)) only [b268_0, b268_5, b268_8, b268_21, b268_24, b268_28, b268_29, b268_37, b268_41, b268_48, b268_51, b268_55, b268_56, b268_59, b268_62, b268_64, b268_69, b268_84, b268_88, b268_97, b268_102, b268_111, b268_115, b268_119, b268_124, b268_136, b268_147, b268_148, b268_153, b268_162, b268_167, b268_176, b268_182, b268_191, b268_197, qcall_l, qcall_r, qretn_l, qJ_s, qJ_n, qV0, qEx, ↓qif0, ↓zchk_pos, ↓reduceIte, qput, qWW, qmW, qkW, qnW, K_37 hK, K_52 hK, K_78 hK, p20, pp, n52, z2, Int.reduceLT, Int.reduceEq, n78]
      · have i2 := r_in e a 0 7 (zbump S) (by omega)
        rw [qb_n c3] at i2
        have hd := r_holdn e (zbump S) (zm S) 2 (by omega) hK (by decide)
        refine qUn_x5 hH 0 ?_ (by decide) ⟨qu (zm S) 37 0 2, ?_, qF0_u _ 2, qu_s _ _ _ _, qHB_0 (S := S) (m := zm S) (qHB1_0 hH.1) 2, q50_z 2⟩
        · simp (config := { maxSteps := 2000000 }) (disch := first | omega | (simp only [K_3 hK, a1, a2, x6, qb_in, qkW, qmW, qnW, true_and, and_true, or_self, true_or, or_true, and_self]; done) | (simp only [K_3 hK, a1, a2, x6, qb_in, qkW, qmW, qnW, true_and, and_true, or_self, true_or, or_true, and_self]; omega)) only [zD_133, b133_0, b133_5, b133_11, b133_20, b133_31, b133_88, b133_97, b133_108, b133_112, b133_113, b133_114, b133_120, b133_126, b133_132, b133_138, b133_144, b133_153, i133, w133_41, qcall_l, qcall_r, qretn_l, qJ_s, qJ_n, qV0, qEx, ↓qif0, ↓zchk_pos, ↓reduceIte, qput, qWW, qmW, qkW, qnW, K_3 hK, bo, if_neg (show ¬ j < 0 by omega), a1, a2, x6, x7, if_pos c2.2, hy, w133_41, if_neg (show ¬ a = 0 by omega), if_neg (show ¬ a = 1 by omega), if_neg (show ¬ a = 2 by omega), if_neg (show ¬ a = 3 by omega), if_neg (show ¬ a = 4 by omega), if_neg (show ¬ a = 5 by omega), if_neg (show ¬ a = 6 by omega), if_neg (show ¬ a = 7 by omega)]
        · have hd : zD e 182 [vr 37, vi 2] (zbump S) = some (.inl (some (vi 0)), qW (zbump S) (qu (zm S) 37 0 2)) := hd
          have e22 : zm (zbump S) 37 22 = 54 := p22
          have e54 : zm (zbump S) 54 b = zm S 54 b := rfl
          simp (config := { maxSteps := 2000000 }) (disch := first | omega | (simp only [K_37 hKb, K_54 hKb, e22, qb_in, qkW, qmW, qnW, true_and, and_true, or_self, true_or, or_true, and_self]; done) | (simp only [K_37 hKb, K_54 hKb, e22, qb_in, qkW, qmW, qnW, true_and, and_true, or_self, true_or, or_true, and_self]; omega)) only [zD_268, b268_0, b268_5, b268_8, b268_21, b268_24, b268_28, b268_29, b268_37, b268_41, b268_48, b268_51, b268_55, b268_56, b268_59, b268_62, b268_64, b268_84, b268_88, b268_97, b268_102, b268_111, b268_115, b268_119, b268_124, b268_136, b268_147, b268_148, b268_153, b268_162, b268_167, b268_176, b268_182, b268_191, b268_197, qcall_l, qcall_r, qretn_l, qJ_s, qJ_n, qV0, qEx, ↓qif0, ↓zchk_pos, ↓reduceIte, qput, qWW, qmW, qkW, qnW, K_37 hKb, K_54 hKb, ibb, e22, e54, z1, i1b, i2, hd, Int.reduceEq]
          rfl
    · rw [qb_n (show ¬ (0 ≤ j ∧ j ≤ zm S 54 b - 1) by omega)] at i1b
      have hd := r_holdn e (zbump S) (zm S) 1 (by omega) hK (by decide)
      refine qUn_x5 hH 2 ?_ (by decide) ⟨qu (zm S) 37 0 1, ?_, qF0_u _ 1, qu_s _ _ _ _, qHB_0 (S := S) (m := zm S) (qHB1_0 hH.1) 1, q50_z 1⟩
      · by_cases c4 : j < 0
        · simp (config := { maxSteps := 2000000 }) (disch := first | omega | (simp only [K_3 hK, qb_in, qkW, qmW, qnW, true_and, and_true, or_self, true_or, or_true, and_self]; done) | (simp only [K_3 hK, qb_in, qkW, qmW, qnW, true_and, and_true, or_self, true_or, or_true, and_self]; omega)) only [zD_133, b133_0, b133_5, b133_11, b133_20, b133_31, b133_88, b133_97, b133_108, b133_112, b133_113, b133_114, b133_120, b133_126, b133_132, b133_138, b133_144, b133_153, i133, w133_41, qcall_l, qcall_r, qretn_l, qJ_s, qJ_n, qV0, qEx, ↓qif0, ↓zchk_pos, ↓reduceIte, qput, qWW, qmW, qkW, qnW, K_3 hK, bo, if_pos c4]
        · simp (config := { maxSteps := 2000000 }) (disch := first | omega | (simp only [K_3 hK, a1, qb_in, qkW, qmW, qnW, true_and, and_true, or_self, true_or, or_true, and_self]; done) | (simp only [K_3 hK, a1, qb_in, qkW, qmW, qnW, true_and, and_true, or_self, true_or, or_true, and_self]; omega)) only [zD_133, b133_0, b133_5, b133_11, b133_20, b133_31, b133_88, b133_97, b133_108, b133_112, b133_113, b133_114, b133_120, b133_126, b133_132, b133_138, b133_144, b133_153, i133, w133_41, qcall_l, qcall_r, qretn_l, qJ_s, qJ_n, qV0, qEx, ↓qif0, ↓zchk_pos, ↓reduceIte, qput, qWW, qmW, qkW, qnW, K_3 hK, bo, if_neg c4, a1, x7, if_neg (show ¬ j < zm S 54 b by omega)]
      · have hd : zD e 182 [vr 37, vi 1] (zbump S) = some (.inl (some (vi 0)), qW (zbump S) (qu (zm S) 37 0 1)) := hd
        have e22 : zm (zbump S) 37 22 = 54 := p22
        have e54 : zm (zbump S) 54 b = zm S 54 b := rfl
        simp (config := { maxSteps := 2000000 }) (disch := first | omega | (simp only [K_37 hKb, K_54 hKb, e22, qb_in, qkW, qmW, qnW, true_and, and_true, or_self, true_or, or_true, and_self]; done) | (simp only [K_37 hKb, K_54 hKb, e22, qb_in, qkW, qmW, qnW, true_and, and_true, or_self, true_or, or_true, and_self]; omega)) only [zD_268, b268_0, b268_5, b268_8, b268_21, b268_24, b268_28, b268_29, b268_37, b268_41, b268_48, b268_51, b268_55, b268_56, b268_59, b268_62, b268_64, b268_84, b268_88, b268_97, b268_102, b268_111, b268_115, b268_119, b268_124, b268_136, b268_147, b268_148, b268_153, b268_162, b268_167, b268_176, b268_182, b268_191, b268_197, qcall_l, qcall_r, qretn_l, qJ_s, qJ_n, qV0, qEx, ↓qif0, ↓zchk_pos, ↓reduceIte, qput, qWW, qmW, qkW, qnW, K_37 hKb, K_54 hKb, ibb, e22, e54, z1, i1b, hd, Int.reduceEq]
        rfl
  · exact qUn_n5 hH (q_word_n d S b j a (by omega) hK hY.1 c1)
theorem r_allDots5 (d : Nat) (S : zS) (b : Int) (h : 13 ≤ d) (hH : qHB1 S) (hb : 0 ≤ b ∧ b < zm S 37 16) :
    ∃ m', zD d 270 [vr 37, vi b] S = some (.inl (some (vi (zm S (zm S 8 b) 12))), qW S m') ∧ qFly (zm S) m' ∧ qHB1 (qW S m') ∧ qLd (qW S m') b := by
  obtain ⟨e, rfl, he⟩ := qd h
  have hK := hH.1.1.1
  have hY := hH.1.2.2
  obtain ⟨-, -, wr, tr, -⟩ := qBs_x (hY.2.1 b hb.1 hb.2)
  obtain ⟨J, gL, gE, gA, gU, gM, P, ll, v0, -⟩ := hH.2 b hb.1 hb.2
  obtain ⟨Pr, x9, zk⟩ := qB0_P v0 wr.1 tr
  obtain ⟨cb1, cb2, cb3, cb4, cb5, cb6⟩ := v0.2.2
  obtain ⟨-, -, d1, d2⟩ := cb1
  obtain ⟨f, hf⟩ : ∃ f, zm S (zm S 8 b + 2) = f := ⟨_, rfl⟩
  obtain ⟨n, hn⟩ : ∃ n, (P * (zm S 52 b * zm S 51 b)).toNat = n := ⟨_, rfl⟩
  rw [hf] at d1 d2
  obtain ⟨-, -, q3, q4, -⟩ := qmp_r tr
  have asc : P * (zm S 52 b * zm S 51 b) = P * zm S 52 b * zm S 51 b := (Int.mul_assoc _ _ _).symm
  have h1 : P * zm S 52 b ≤ qmp (zm S 52 b) * zm S 52 b := Int.mul_le_mul_of_nonneg_right Pr.2.1 (by omega)
  have h2 : P * zm S 52 b * zm S 51 b ≤ qbl (zm S 51 b) (zm S 52 b) := Int.mul_le_mul_of_nonneg_right h1 (by omega)
  have h3 : 0 ≤ P * zm S 52 b * zm S 51 b := Int.mul_nonneg (Int.mul_nonneg Pr.1 (by omega)) (by omega)
  have bl := qbl_r tr wr
  -- all dots are those of the pages
  have dots : zm S (zm S 8 b) 12 = qsb f 0 n + qsb f 1 n + qsb f 2 n + qsb f 3 n + qsb f 4 n + qsb f 5 n := by
    rw [d1, ← qsum_6 f d2 n, show (qbl (zm S 51 b) (zm S 52 b)).toNat = n + ((qbl (zm S 51 b) (zm S 52 b)).toNat - n) by omega]
    refine qsum_z f n _ fun i i1 i2 => ?_
    -- a row behind the last page
    have k1 := Int.mul_ediv_add_emod i (zm S 51 b)
    have k2 := Int.emod_nonneg i (show zm S 51 b ≠ 0 by omega)
    have k3 := Int.emod_lt_of_pos i (show 0 < zm S 51 b by omega)
    have k4 : zm S 51 b * (i / zm S 51 b) = i / zm S 51 b * zm S 51 b := Int.mul_comm _ _
    have rr : P * zm S 52 b ≤ i / zm S 51 b := by
      by_cases q : P * zm S 52 b ≤ i / zm S 51 b
      · exact q
      · have := qixm (w := zm S 51 b) (a := i / zm S 51 b) (b := P * zm S 52 b) (by omega) (by omega)
        omega
    have hlt : (P - 1) * zm S 52 b + ll < i / zm S 51 b := by
      have e2 : (P - 1) * zm S 52 b = P * zm S 52 b - zm S 52 b := by rw [Int.sub_mul, Int.one_mul]
      rcases cb3 with ⟨_, q2, q3⟩ | ⟨q1, q2, q3, q4⟩ <;> omega
    have z := cb6 (i / zm S 51 b) (i % zm S 51 b) (Int.ediv_nonneg (by omega) (by omega)) hlt k2 k3
    rw [hf, show i / zm S 51 b * zm S 51 b + i % zm S 51 b = i by omega] at z
    exact z
  have one : ∀ (i : Int) (m : Int → Int → Int), 0 ≤ i → i < 6 → qFly (zm S) m → qHB1 (qW S m) → ∃ m', zD e 269 [vr 37, vi b, vi i] (qW S m) = some (.inl (some (vi (qsb f i n))), qW S m') ∧ qFly (zm S) m' ∧ qHB1 (qW S m') ∧ qLd (qW S m') b := fun i m i1 i2 fm gm => by
    have kb := qFx_b hH.1 (qFly_x fm) hb
    obtain ⟨m', r, fl, g, gl⟩ := r_dotsOf e (qW S m) b i (by omega) gm (by show 0 ≤ b ∧ b < m 37 16; rw [kb.2.1]; exact hb) ⟨i1, i2⟩
    rw [show zm (qW S m) 8 = zm S 8 from kb.1 8 (by omega), show zm (qW S m) 51 = zm S 51 from kb.1 51 (by omega), show zm (qW S m) 52 = zm S 52 from kb.1 52 (by omega), show zm (qW S m) (zm S 8 b) = zm S (zm S 8 b) from kb.2.2.1, show zm (qW S m) (zm S 8 b + 2) = zm S (zm S 8 b + 2) from kb.2.2.2.2, x9, hf, hn] at r
    exact ⟨m', r, qFly_t fm fl, g, gl⟩
  have n14 : (n : Int) ≤ 14520 := by omega
  have s0 := qsb_r f 0 n
  have s1 := qsb_r f 1 n
  have s2 := qsb_r f 2 n
  have s3 := qsb_r f 3 n
  have s4 := qsb_r f 4 n
  have s5 := qsb_r f 5 n
  obtain ⟨m0, r0, f0, g0⟩ := one 0 (zm S) (by decide) (by decide) (qFly_r _) hH
  obtain ⟨m1, r1, f1, g1⟩ := one 1 m0 (by decide) (by decide) f0 g0.1
  obtain ⟨m2, r2, f2, g2⟩ := one 2 m1 (by decide) (by decide) f1 g1.1
  obtain ⟨m3, r3, f3, g3⟩ := one 3 m2 (by decide) (by decide) f2 g2.1
  obtain ⟨m4, r4, f4, g4⟩ := one 4 m3 (by decide) (by decide) f3 g3.1
  obtain ⟨m5, r5, f5, g5⟩ := one 5 m4 (by decide) (by decide) f4 g4.1
  rw [qWS] at r0
  refine ⟨m5, ?_, f5, g5⟩
  rw [dots]
  generalize qsb f 0 n = a0 at *
  generalize qsb f 1 n = a1 at *
  generalize qsb f 2 n = a2 at *
  generalize qsb f 3 n = a3 at *
  generalize qsb f 4 n = a4 at *
  generalize qsb f 5 n = a5 at *
  have z0 : z32 (0 + a0) = a0 := by rw [q32 (by omega)]; omega
  have z1 : z32 (a0 + a1) = a0 + a1 := q32 (by omega)
  have z2 : z32 (a0 + a1 + a2) = a0 + a1 + a2 := q32 (by omega)
  have z3 : z32 (a0 + a1 + a2 + a3) = a0 + a1 + a2 + a3 := q32 (by omega)
  have z4 : z32 (a0 + a1 + a2 + a3 + a4) = a0 + a1 + a2 + a3 + a4 := q32 (by omega)
  have z5 : z32 (a0 + a1 + a2 + a3 + a4 + a5) = a0 + a1 + a2 + a3 + a4 + a5 := q32 (by omega)
  simp (config := { maxSteps := 2000000 }) (disch := first | omega | (simp only [K_37 hK, qb_in, qkW, qmW, qnW, true_and, and_true, or_self, true_or, or_true, and_self]; done) | (simp only [K_37 hK, qb_in, qkW, qmW, qnW, true_and, and_true, or_self, true_or, or_true, and_self]; omega)) only [zD_270, b270_0, b270_10, b270_17, b270_25, qcall_l, qcall_r, qretn_l, qJ_s, qJ_n, qV0, qEx, ↓qif0, ↓zchk_pos, ↓reduceIte, qput, qWW, qmW, qkW, qnW, b270_4, K_37 hK, r0, r1, r2, r3, r4, r5, z0, z1, z2, z3, z4, z5, show z32 (0 + 1) = 1 from rfl, show z32 (1 + 1) = 2 from rfl, show z32 (2 + 1) = 3 from rfl, show z32 (3 + 1) = 4 from rfl, show z32 (4 + 1) = 5 from rfl, show z32 (5 + 1) = 6 from rfl, Int.reduceLT]
theorem q_ofBook5 (d : Nat) (S : zS) (b a : Int) (h : 17 ≤ d) (hH : qHC S) :
    qUn vi qid (qG5 S) S (zD d 134 [vr 3, vi b, vi a] S) (zD d 271 [vr 37, vi b, vi a]) qpsD := by
  obtain ⟨⟨⟨⟨hK, hP, hL, hn⟩, ⟨hT, hC, hR, hk⟩, hPo, hY⟩, hBB⟩, hYC, hFc⟩ := id hH
  by_cases c1 : 0 ≤ b ∧ b < zm S 37 16
  · obtain ⟨e, rfl, he⟩ := qd h
    obtain ⟨⟨a1, a2, a3, a4, a5⟩, -, -, ⟨x3, wr⟩, ⟨x4, tr⟩, -, x6, ⟨x7, n0, n80⟩, x8, -⟩ := hY.2.1 b c1.1 c1.2
    have bo := s_bookOf_y e S b (by omega) hK hP hY.1 c1
    have hKb : qK (zbump S) := hK
    have hbn : b < 4 := by have := hY.1.2; omega
    have ibb := r_isbook_y e (zbump S) b (by omega) hKb hY.1.2 c1
    by_cases c3 : 0 ≤ a ∧ a ≤ 5
    · have ref : ∀ (m1 : Int → Int → Int), (∀ z, z ≠ 102 → m1 z = zm S z) → qHB1 (qW S m1) → ∃ m3, qF0 m1 m3 ∧ m3 37 0 = 0 ∧ (qHB1 (qW S m3) ∧ q50 S m3) ∧ zD (e + 1) 271 [vr 37, vi b, vi a] (qW S m1) = zF_271 e 40 [vr 37, vi b, vi a, vu] [vi (zm S (zm S 8 b) 9)] (qW S m3) ∧ m3 54 b = zm S 54 b ∧ (m3 37 53 + zm S (zm S 8 b) 9 = zm S (zm S 8 b) 10 ∧ 0 ≤ m3 37 53 ∧ m3 37 53 ≤ 240 ∧ 0 ≤ zm S (zm S 8 b) 9 ∧ zm S (zm S 8 b) 9 ≤ 121) ∧ m3 37 63 = zm S (zm S 8 b) 11 ∧ (∀ z, z ≤ 63 → z ≠ 37 → m3 z = zm S z) ∧ (∀ z, 90 ≤ z → z ≠ 102 → m3 z = zm S z) ∧ (∀ z, 81 ≤ z → z ≤ 88 → m3 z = zm S z) ∧ m3 37 16 = zm S 37 16 ∧ m3 37 65 = zm S 37 65 := by
        intro m1 k1 H1
        have k37 : m1 37 = zm S 37 := k1 37 (by decide)
        have hb1 : 0 ≤ b ∧ b < m1 37 16 := by rw [k37]; exact c1
        have ib := r_isbook_y e (qW S m1) b (by omega) hK H1.1.2.2.1.2 hb1
        have i2 := r_in e a 0 5 (qW S m1) (by omega)
        rw [qb_p c3] at i2
        have hd := r_hold0 e S m1 (by omega) hK
        have H2 := qHB_0 H1 0
        obtain ⟨m2, hm2⟩ : ∃ m2, qu m1 37 0 0 = m2 := ⟨_, rfl⟩
        have H2 : qHB1 (qW S (qu m1 37 0 0)) := H2
        rw [hm2] at hd H2
        have f2 : qF0 m1 m2 := by rw [← hm2]; exact qF0_u m1 0
        obtain ⟨g1, g2, -, g4⟩ := qF0_b k1 f2
        have n16 : m2 37 16 = zm S 37 16 := g4 16 (by unfold qfly; omega)
        have hb2 : 0 ≤ b ∧ b < zm (qW S m2) 37 16 := by show 0 ≤ b ∧ b < m2 37 16; rw [n16]; exact c1
        obtain ⟨m3, r3, f3, H3, l3⟩ := r_pagesOf e (qW S m2) b (by omega) H2 hb2
        rw [show zm (qW S m2) 8 = zm S 8 from g1 8 (by decide) (by decide), show zm (qW S m2) (zm S 8 b) = zm S (zm S 8 b) from g2 _ (by omega) (by omega)] at r3
        have r3 : zD e 266 [vr 37, vi b] (qW S m2) = some (.inl (some (vi (zm S (zm S 8 b) 9))), qW S m3) := r3
        have H3 : qHB1 (qW S m3) := H3
        have l3 : qLd (qW S m3) b := l3
        have f13 : qF0 m1 m3 := qF0_t f2 (qF0_l f3)
        have h30 : m3 37 0 = 0 := by
          rw [show m3 37 0 = m2 37 0 from f3 37 0 (by unfold qfly; omega), ← hm2, qu_s]
        obtain ⟨o1, o2, o3, o4⟩ := qF0_b k1 f13
        have m16 : m3 37 16 = zm S 37 16 := o4 16 (by unfold qfly; omega)
        have m65 : m3 37 65 = zm S 37 65 := o4 65 (by unfold qfly; omega)
        obtain ⟨J', gL, gE, gA, gU, gM, P', ll', v0, v1⟩ := qBB_l (H3.2 b c1.1 (by show b < m3 37 16; rw [m16]; exact c1.2)) l3
        have q8 : zm (qW S m3) 8 = zm S 8 := o1 8 (by decide) (by decide)
        have q51 : zm (qW S m3) 51 = zm S 51 := o1 51 (by decide) (by decide)
        have q52 : zm (qW S m3) 52 = zm S 52 := o1 52 (by decide) (by decide)
        have qx : zm (qW S m3) (zm S 8 b) = zm S (zm S 8 b) := o2 _ (by omega) (by omega)
        rw [q8] at v0
        rw [q51, q52] at v0 v1
        obtain ⟨Pr', x9', zk'⟩ := qB0_P v0 wr.1 tr
        have cb := v0.2.2.2.1
        rw [qx] at cb x9'
        have n53 : m3 37 53 = (qZn (zm S 51 b) (zm S 52 b) gL gE gA J').1 := v1.1.1
        have J80 := v0.1.2.1
        have zz := zk'.1
        refine ⟨m3, f13, h30, ⟨H3, q50_l l3.1 c1⟩, ?_, by rw [o1 54 (by decide) (by decide)], ⟨by rw [cb.1, n53, x9'], by omega, by omega, by omega, by omega⟩, by rw [cb.2]; exact v1.2.2, o1, o2, o3, m16, m65⟩
        simp (config := { maxSteps := 2000000 }) (disch := first | omega | (simp only [K_37 hK, qb_in, qkW, qmW, qnW, true_and, and_true, or_self, true_or, or_true, and_self]; done) | (simp only [K_37 hK, qb_in, qkW, qmW, qnW, true_and, and_true, or_self, true_or, or_true, and_self]; omega)) only [zD_271, b271_0, b271_6, b271_9, b271_13, b271_19, b271_22, b271_26, b271_27, b271_30, b271_33, b271_35, b271_46, b271_50, b271_59, b271_64, b271_68, b271_74, b271_75, b271_80, b271_87, b271_92, b271_97, b271_100, b271_105, qcall_l, qcall_r, qretn_l, qJ_s, qJ_n, qV0, qEx, ↓qif0, ↓zchk_pos, ↓reduceIte, qput, qWW, qmW, qkW, qnW, K_37 hK, ib, i2, hd, r3, Int.reduceEq]
      have hcase : a = 0 ∨ a = 1 ∨ a = 2 ∨ a = 3 ∨ a = 4 ∨ a = 5 := by omega
      rcases hcase with rfl | rfl | rfl | rfl | rfl | rfl
      · refine qUn_k5 hH (zm S 54 b) ?_ (fun m1 k1 H1 => ?_)
        · skip
          simp (config := { maxSteps := 2000000 }) (disch := first | omega | (simp only [K_3 hK, a1, qb_in, qkW, qmW, qnW, true_and, and_true, or_self, true_or, or_true, and_self]; done) | (simp only [K_3 hK, a1, qb_in, qkW, qmW, qnW, true_and, and_true, or_self, true_or, or_true, and_self]; omega)) only [zD_134, b134_0, b134_5, b134_44, b134_49, b134_54, b134_59, b134_64, b134_69, b134_74, i134, w134_7, qcall_l, qcall_r, qretn_l, qJ_s, qJ_n, qV0, qEx, ↓qif0, ↓zchk_pos, ↓reduceIte, qput, qWW, qmW, qkW, qnW, K_3 hK, bo, w134_7, Int.reduceEq, a1, x7]
        · obtain ⟨m3, f13, h30, H3, r, n54, ⟨n10, nb⟩, n63, o1, o2, o3, m16, m65⟩ := ref m1 k1 H1
          have hP3 := H3.1.1.1.2.1
          have p22 : m3 37 22 = 54 := P_37_22 hP3
          refine ⟨m3, ?_, f13, h30, H3⟩
          rw [r, b271_40]
          simp (config := { maxSteps := 2000000 }) (disch := first | omega | (simp only [K_37 hK, K_54 hK, p22, qb_in, qkW, qmW, qnW, true_and, and_true, or_self, true_or, or_true, and_self]; done) | (simp only [K_37 hK, K_54 hK, p22, qb_in, qkW, qmW, qnW, true_and, and_true, or_self, true_or, or_true, and_self]; omega)) only [b271_0, b271_6, b271_9, b271_13, b271_19, b271_22, b271_26, b271_27, b271_30, b271_33, b271_35, b271_40, b271_46, b271_50, b271_59, b271_64, b271_68, b271_74, b271_75, b271_80, b271_87, b271_92, b271_97, b271_100, b271_105, qcall_l, qcall_r, qretn_l, qJ_s, qJ_n, qV0, qEx, ↓qif0, ↓zchk_pos, ↓reduceIte, qput, qWW, qmW, qkW, qnW, K_37 hK, K_54 hK, p22, Int.reduceLT, Int.reduceEq, n54]
      · refine qUn_k5 hH (zm S (zm S 8 b) 9) ?_ (fun m1 k1 H1 => ?_)
        · skip
          simp (config := { maxSteps := 2000000 }) (disch := first | omega | (simp only [K_3 hK, a1, qb_in, qkW, qmW, qnW, true_and, and_true, or_self, true_or, or_true, and_self]; done) | (simp only [K_3 hK, a1, qb_in, qkW, qmW, qnW, true_and, and_true, or_self, true_or, or_true, and_self]; omega)) only [zD_134, b134_0, b134_5, b134_44, b134_49, b134_54, b134_59, b134_64, b134_69, b134_74, i134, w134_7, qcall_l, qcall_r, qretn_l, qJ_s, qJ_n, qV0, qEx, ↓qif0, ↓zchk_pos, ↓reduceIte, qput, qWW, qmW, qkW, qnW, K_3 hK, bo, w134_7, Int.reduceEq, a1, a1]
        · obtain ⟨m3, f13, h30, H3, r, n54, ⟨n10, nb⟩, n63, o1, o2, o3, m16, m65⟩ := ref m1 k1 H1
          have hP3 := H3.1.1.1.2.1
          have p22 : m3 37 22 = 54 := P_37_22 hP3
          refine ⟨m3, ?_, f13, h30, H3⟩
          rw [r, b271_40]
          simp (config := { maxSteps := 2000000 }) (disch := first | omega | (simp only [K_37 hK, K_54 hK, p22, qb_in, qkW, qmW, qnW, true_and, and_true, or_self, true_or, or_true, and_self]; done) | (simp only [K_37 hK, K_54 hK, p22, qb_in, qkW, qmW, qnW, true_and, and_true, or_self, true_or, or_true, and_self]; omega)) only [b271_0, b271_6, b271_9, b271_13, b271_19, b271_22, b271_26, b271_27, b271_30, b271_33, b271_35, b271_40, b271_46, b271_50, b271_59, b271_64, b271_68, b271_74, b271_75, b271_80, b271_87, b271_92, b271_97, b271_100, b271_105, qcall_l, qcall_r, qretn_l, qJ_s, qJ_n, qV0, qEx, ↓qif0, ↓zchk_pos, ↓reduceIte, qput, qWW, qmW, qkW, qnW, K_37 hK, K_54 hK, p22, Int.reduceLT, Int.reduceEq, Int.reduceEq]
      · refine qUn_k5 hH (zm S (zm S 8 b) 10) ?_ (fun m1 k1 H1 => ?_)
        · skip
          simp (config := { maxSteps := 2000000 }) (disch := first | omega | (simp only [K_3 hK, a1, qb_in, qkW, qmW, qnW, true_and, and_true, or_self, true_or, or_true, and_self]; done) | (simp only [K_3 hK, a1, qb_in, qkW, qmW, qnW, true_and, and_true, or_self, true_or, or_true, and_self]; omega)) only [zD_134, b134_0, b134_5, b134_44, b134_49, b134_54, b134_59, b134_64, b134_69, b134_74, i134, w134_7, qcall_l, qcall_r, qretn_l, qJ_s, qJ_n, qV0, qEx, ↓qif0, ↓zchk_pos, ↓reduceIte, qput, qWW, qmW, qkW, qnW, K_3 hK, bo, w134_7, Int.reduceEq, a1, a1]
        · obtain ⟨m3, f13, h30, H3, r, n54, ⟨n10, nb⟩, n63, o1, o2, o3, m16, m65⟩ := ref m1 k1 H1
          have hP3 := H3.1.1.1.2.1
          have p22 : m3 37 22 = 54 := P_37_22 hP3
          refine ⟨m3, ?_, f13, h30, H3⟩
          rw [r, b271_40]
          have z3 : z32 (zm S (zm S 8 b) 10) = zm S (zm S 8 b) 10 := q32 (by omega)
          simp (config := { maxSteps := 2000000 }) (disch := first | omega | (simp only [K_37 hK, K_54 hK, p22, qb_in, qkW, qmW, qnW, true_and, and_true, or_self, true_or, or_true, and_self]; done) | (simp only [K_37 hK, K_54 hK, p22, qb_in, qkW, qmW, qnW, true_and, and_true, or_self, true_or, or_true, and_self]; omega)) only [b271_0, b271_6, b271_9, b271_13, b271_19, b271_22, b271_26, b271_27, b271_30, b271_33, b271_35, b271_40, b271_46, b271_50, b271_59, b271_64, b271_68, b271_74, b271_75, b271_80, b271_87, b271_92, b271_97, b271_100, b271_105, qcall_l, qcall_r, qretn_l, qJ_s, qJ_n, qV0, qEx, ↓qif0, ↓zchk_pos, ↓reduceIte, qput, qWW, qmW, qkW, qnW, K_37 hK, K_54 hK, p22, Int.reduceLT, Int.reduceEq, n10, z3]
      · refine qUn_k5 hH (zm S (zm S 8 b) 11) ?_ (fun m1 k1 H1 => ?_)
        · skip
          simp (config := { maxSteps := 2000000 }) (disch := first | omega | (simp only [K_3 hK, a1, qb_in, qkW, qmW, qnW, true_and, and_true, or_self, true_or, or_true, and_self]; done) | (simp only [K_3 hK, a1, qb_in, qkW, qmW, qnW, true_and, and_true, or_self, true_or, or_true, and_self]; omega)) only [zD_134, b134_0, b134_5, b134_44, b134_49, b134_54, b134_59, b134_64, b134_69, b134_74, i134, w134_7, qcall_l, qcall_r, qretn_l, qJ_s, qJ_n, qV0, qEx, ↓qif0, ↓zchk_pos, ↓reduceIte, qput, qWW, qmW, qkW, qnW, K_3 hK, bo, w134_7, Int.reduceEq, a1, a1]
        · obtain ⟨m3, f13, h30, H3, r, n54, ⟨n10, nb⟩, n63, o1, o2, o3, m16, m65⟩ := ref m1 k1 H1
          have hP3 := H3.1.1.1.2.1
          have p22 : m3 37 22 = 54 := P_37_22 hP3
          refine ⟨m3, ?_, f13, h30, H3⟩
          rw [r, b271_40]
          simp (config := { maxSteps := 2000000 }) (disch := first | omega | (simp only [K_37 hK, K_54 hK, p22, qb_in, qkW, qmW, qnW, true_and, and_true, or_self, true_or, or_true, and_self]; done) | (simp only [K_37 hK, K_54 hK, p22, qb_in, qkW, qmW, qnW, true_and, and_true, or_self, true_or, or_true, and_self]; omega)) only [b271_0, b271_6, b271_9, b271_13, b271_19, b271_22, b271_26, b271_27, b271_30, b271_33, b271_35, b271_40, b271_46, b271_50, b271_59, b271_64, b271_68, b271_74, b271_75, b271_80, b271_87, b271_92, b271_97, b271_100, b271_105, qcall_l, qcall_r, qretn_l, qJ_s, qJ_n, qV0, qEx, ↓qif0, ↓zchk_pos, ↓reduceIte, qput, qWW, qmW, qkW, qnW, K_37 hK, K_54 hK, p22, Int.reduceLT, Int.reduceEq, n63]
      · refine qUn_k5 hH (zm S (zm S 8 b) 12) ?_ (fun m1 k1 H1 => ?_)
        · skip
          simp (config := { maxSteps := 2000000 }) (disch := first | omega | (simp only [K_3 hK, a1, qb_in, qkW, qmW, qnW, true_and, and_true, or_self, true_or, or_true, and_self]; done) | (simp only [K_3 hK, a1, qb_in, qkW, qmW, qnW, true_and, and_true, or_self, true_or, or_true, and_self]; omega)) only [zD_134, b134_0, b134_5, b134_44, b134_49, b134_54, b134_59, b134_64, b134_69, b134_74, i134, w134_7, qcall_l, qcall_r, qretn_l, qJ_s, qJ_n, qV0, qEx, ↓qif0, ↓zchk_pos, ↓reduceIte, qput, qWW, qmW, qkW, qnW, K_3 hK, bo, w134_7, Int.reduceEq, a1, a1]
        · obtain ⟨m3, f13, h30, H3, r, n54, ⟨n10, nb⟩, n63, o1, o2, o3, m16, m65⟩ := ref m1 k1 H1
          have hP3 := H3.1.1.1.2.1
          have p22 : m3 37 22 = 54 := P_37_22 hP3
          obtain ⟨m4, r4, f4, H4, l4⟩ := r_allDots5 e (qW S m3) b (by omega) H3.1 (by show 0 ≤ b ∧ b < m3 37 16; rw [m16]; exact c1)
          rw [show zm (qW S m3) 8 = zm S 8 from o1 8 (by decide) (by decide), show zm (qW S m3) (zm S 8 b) = zm S (zm S 8 b) from o2 _ (by omega) (by omega)] at r4
          have r4 : zD e 270 [vr 37, vi b] (qW S m3) = some (.inl (some (vi (zm S (zm S 8 b) 12))), qW S m4) := r4
          refine ⟨m4, ?_, qF0_t f13 (qF0_l f4), by rw [show m4 37 0 = m3 37 0 from f4 37 0 (by unfold qfly; omega), h30], H4, q50_l l4.1 c1⟩
          rw [r, b271_40]
          simp (config := { maxSteps := 2000000 }) (disch := first | omega | (simp only [K_37 hK, qb_in, qkW, qmW, qnW, true_and, and_true, or_self, true_or, or_true, and_self]; done) | (simp only [K_37 hK, qb_in, qkW, qmW, qnW, true_and, and_true, or_self, true_or, or_true, and_self]; omega)) only [b271_0, b271_6, b271_9, b271_13, b271_19, b271_22, b271_26, b271_27, b271_30, b271_33, b271_35, b271_40, b271_46, b271_50, b271_59, b271_64, b271_68, b271_74, b271_75, b271_80, b271_87, b271_92, b271_97, b271_100, b271_105, qcall_l, qcall_r, qretn_l, qJ_s, qJ_n, qV0, qEx, ↓qif0, ↓zchk_pos, ↓reduceIte, qput, qWW, qmW, qkW, qnW, K_37 hK, Int.reduceLT, Int.reduceEq, r4]
      · refine qUn_k5 hH (qbn (zm S) b (zm S 37 65).toNat) ?_ (fun m1 k1 H1 => ?_)
        · have h13 := hYC.1 b c1.1 c1.2
          simp (config := { maxSteps := 2000000 }) (disch := first | omega | (simp only [K_3 hK, a1, qb_in, qkW, qmW, qnW, true_and, and_true, or_self, true_or, or_true, and_self]; done) | (simp only [K_3 hK, a1, qb_in, qkW, qmW, qnW, true_and, and_true, or_self, true_or, or_true, and_self]; omega)) only [zD_134, b134_0, b134_5, b134_44, b134_49, b134_54, b134_59, b134_64, b134_69, b134_74, i134, w134_7, qcall_l, qcall_r, qretn_l, qJ_s, qJ_n, qV0, qEx, ↓qif0, ↓zchk_pos, ↓reduceIte, qput, qWW, qmW, qkW, qnW, K_3 hK, bo, w134_7, Int.reduceEq, a1, h13]
        · obtain ⟨m3, f13, h30, H3, r, n54, ⟨n10, nb⟩, n63, o1, o2, o3, m16, m65⟩ := ref m1 k1 H1
          have hP3 := H3.1.1.1.2.1
          have p22 : m3 37 22 = 54 := P_37_22 hP3
          have hn65 := hPo.2.2.2.1.1.2
          have r4 := r_copiesOf e (qW S m3) b (by omega) hK hP3 (by show 0 ≤ m3 37 65 ∧ m3 37 65 ≤ 20; rw [m65]; exact hn65)
          rw [show zm (qW S m3) = m3 from rfl, m65, qbn_e (o3 82 (by decide) (by decide))] at r4
          refine ⟨m3, ?_, f13, h30, H3⟩
          rw [r, b271_40]
          simp (config := { maxSteps := 2000000 }) (disch := first | omega | (simp only [K_37 hK, qb_in, qkW, qmW, qnW, true_and, and_true, or_self, true_or, or_true, and_self]; done) | (simp only [K_37 hK, qb_in, qkW, qmW, qnW, true_and, and_true, or_self, true_or, or_true, and_self]; omega)) only [b271_0, b271_6, b271_9, b271_13, b271_19, b271_22, b271_26, b271_27, b271_30, b271_33, b271_35, b271_40, b271_46, b271_50, b271_59, b271_64, b271_68, b271_74, b271_75, b271_80, b271_87, b271_92, b271_97, b271_100, b271_105, qcall_l, qcall_r, qretn_l, qJ_s, qJ_n, qV0, qEx, ↓qif0, ↓zchk_pos, ↓reduceIte, qput, qWW, qmW, qkW, qnW, K_37 hK, Int.reduceLT, Int.reduceEq, r4]
    · have i2 := r_in e a 0 5 (zbump S) (by omega)
      rw [qb_n c3] at i2
      have hd := r_holdn e (zbump S) (zm S) 2 (by omega) hK (by decide)
      refine qUn_x5 hH 0 ?_ (by decide) ⟨qu (zm S) 37 0 2, ?_, qF0_u _ 2, qu_s _ _ _ _, qHB_0 (S := S) (m := zm S) (qHB1_0 hH.1) 2, q50_z 2⟩
      · simp (config := { maxSteps := 2000000 }) (disch := first | omega | (simp only [K_3 hK, qb_in, qkW, qmW, qnW, true_and, and_true, or_self, true_or, or_true, and_self]; done) | (simp only [K_3 hK, qb_in, qkW, qmW, qnW, true_and, and_true, or_self, true_or, or_true, and_self]; omega)) only [zD_134, b134_0, b134_5, b134_44, b134_49, b134_54, b134_59, b134_64, b134_69, b134_74, i134, w134_7, qcall_l, qcall_r, qretn_l, qJ_s, qJ_n, qV0, qEx, ↓qif0, ↓zchk_pos, ↓reduceIte, qput, qWW, qmW, qkW, qnW, K_3 hK, bo, w134_7, if_neg (show ¬ a = 0 by omega), if_neg (show ¬ a = 1 by omega), if_neg (show ¬ a = 2 by omega), if_neg (show ¬ a = 3 by omega), if_neg (show ¬ a = 4 by omega), if_neg (show ¬ a = 5 by omega)]
      · have hd : zD e 182 [vr 37, vi 2] (zbump S) = some (.inl (some (vi 0)), qW (zbump S) (qu (zm S) 37 0 2)) := hd
        simp (config := { maxSteps := 2000000 }) (disch := first | omega | (simp only [K_37 hKb, qb_in, qkW, qmW, qnW, true_and, and_true, or_self, true_or, or_true, and_self]; done) | (simp only [K_37 hKb, qb_in, qkW, qmW, qnW, true_and, and_true, or_self, true_or, or_true, and_self]; omega)) only [zD_271, b271_0, b271_6, b271_9, b271_13, b271_19, b271_22, b271_26, b271_27, b271_30, b271_33, b271_35, b271_46, b271_50, b271_59, b271_64, b271_68, b271_74, b271_75, b271_80, b271_87, b271_92, b271_97, b271_100, b271_105, qcall_l, qcall_r, qretn_l, qJ_s, qJ_n, qV0, qEx, ↓qif0, ↓zchk_pos, ↓reduceIte, qput, qWW, qmW, qkW, qnW, K_37 hKb, ibb, i2, hd, Int.reduceEq]
        rfl
  · exact qUn_n5 hH (q_ofBook_n d S b a (by omega) hK hY.1 c1)
theorem q_unknown5 (d : Nat) (S : zS) (r b : Int) (h : 15 ≤ d) (hH : qHC S) :
    qUn vi qid (qG5 S) S (zD d 143 [vr 3, vi r, vi b] S) (zD d 293 [vr 37, vi r, vi b]) qpsF := by
  obtain ⟨⟨⟨⟨hK, hP, hL, hn⟩, ⟨hT, hC, hR, hk⟩, ⟨p1, p2, p3, p4, p5, p6⟩, hY⟩, hBB⟩, hYC, hFc⟩ := id hH
  by_cases c1 : 0 ≤ r ∧ r < zm S 37 76
  · obtain ⟨e, rfl, he⟩ := qd h
    have ro := s_readerOf_y e S r (by omega) hK hP p5.1 c1
    have kr := (p5.2.1 r c1.1 c1.2).1.1
    by_cases c2 : 0 ≤ b ∧ b < zm S 37 16
    · have bo := s_bookOf_y e S b (by omega) hK hP hY.1 c2
      have kb := (hY.2.1 b c2.1 c2.2).1.1
      have su := s_countUnknown e S r b (by omega) hH.1 c1 c2
      refine qUn_k5 hH (quk (zm S) r b) ?_ (fun m1 k1 H1 => ?_)
      · simp (config := { maxSteps := 2000000 }) (disch := first | omega | (simp only [K_3 hK, qb_in, qkW, qmW, qnW, true_and, and_true, or_self, true_or, or_true, and_self]; done) | (simp only [K_3 hK, qb_in, qkW, qmW, qnW, true_and, and_true, or_self, true_or, or_true, and_self]; omega)) only [zD_143, b143_0, b143_5, b143_10, b143_13, qcall_l, qcall_r, qretn_l, qJ_s, qJ_n, qV0, qEx, ↓qif0, ↓zchk_pos, ↓reduceIte, qput, qWW, qmW, qkW, qnW, K_3 hK, ro, bo, su]
      · have k37 : m1 37 = zm S 37 := k1 37 (by decide)
        have ir := r_isreader_y e (qW S m1) r (by omega) hK (by show 0 ≤ m1 37 76 ∧ m1 37 76 ≤ 6; rw [k37]; exact p5.1.2) (by show 0 ≤ r ∧ r < m1 37 76; rw [k37]; exact c1)
        have ib := r_isbook_y e (qW S m1) b (by omega) hK H1.1.2.2.1.2 (by show 0 ≤ b ∧ b < m1 37 16; rw [k37]; exact c2)
        have hd := r_hold0 e S m1 (by omega) hK
        have H2 := qHB_0 H1 0
        obtain ⟨m2, hm2⟩ : ∃ m2, qu m1 37 0 0 = m2 := ⟨_, rfl⟩
        have H2 : qHB1 (qW S (qu m1 37 0 0)) := H2
        rw [hm2] at hd H2
        have f2 : qF0 m1 m2 := by rw [← hm2]; exact qF0_u m1 0
        have n16 : m2 37 16 = zm S 37 16 := by rw [← hm2, qu_i _ _ _ _ _ (by decide), k37]
        have o2 : ∀ z, z ≠ 102 → z ≠ 37 → m2 z = zm S z := fun z h1 h2 => by rw [← hm2, qu_o _ _ _ _ _ h2, k1 z h1]
        obtain ⟨m3, r3, f3, H3, l3⟩ := r_unknownTo e (qW S m2) r b (by omega) H2 ⟨c1.1, by have := p5.1.2; omega⟩ (by show 0 ≤ b ∧ b < m2 37 16; rw [n16]; exact c2)
        rw [show quk (zm (qW S m2)) r b = quk (zm S) r b from quk_e hH.1 c2 (o2 8 (by decide) (by decide)) (o2 49 (by decide) (by decide)) (o2 54 (by decide) (by decide)) (o2 91 (by decide) (by decide)) fun x hx => o2 x (by omega) (by omega)] at r3
        have h30 : m3 37 0 = 0 := by
          rw [show m3 37 0 = m2 37 0 from f3 37 0 (by unfold qfly; omega), ← hm2, qu_s]
        refine ⟨m3, ?_, qF0_t f2 (qF0_l f3), h30, H3, q50_l l3.1 c2⟩
        simp (config := { maxSteps := 2000000 }) (disch := first | omega | (simp only [K_37 hK, qb_in, qkW, qmW, qnW, true_and, and_true, or_self, true_or, or_true, and_self]; done) | (simp only [K_37 hK, qb_in, qkW, qmW, qnW, true_and, and_true, or_self, true_or, or_true, and_self]; omega)) only [zD_293, b293_0, b293_6, b293_9, b293_14, b293_17, b293_21, b293_22, b293_25, b293_28, b293_34, b293_37, b293_38, qcall_l, qcall_r, qretn_l, qJ_s, qJ_n, qV0, qEx, ↓qif0, ↓zchk_pos, ↓reduceIte, qput, qWW, qmW, qkW, qnW, K_37 hK, ir, ib, hd, r3, Int.reduceEq]
    · refine qUn_n5 hH ⟨2, ?_, ?_, by decide⟩
      · have bo := s_bookOf_n e S b (by omega) hK hY.1 c2
        simp (config := { maxSteps := 2000000 }) (disch := first | omega | (simp only [K_3 hK, kr, qb_in, qkW, qmW, qnW, true_and, and_true, or_self, true_or, or_true, and_self]; done) | (simp only [K_3 hK, kr, qb_in, qkW, qmW, qnW, true_and, and_true, or_self, true_or, or_true, and_self]; omega)) only [zD_143, b143_0, b143_5, b143_10, b143_13, qcall_l, qcall_r, qretn_l, qJ_s, qJ_n, qV0, qEx, ↓qif0, ↓zchk_pos, ↓reduceIte, qput, qWW, qmW, qkW, qnW, K_3 hK, ro, bo, kr]
      · have hKb : qK (zbump S) := hK
        have ir := r_isreader_y e (zbump S) r (by omega) hK p5.1.2 c1
        have ib := r_isbook_n e S b (by omega) hK hY.1.2 c2
        have hd := r_refuse e S 1 (by omega) hK (by decide)
        simp (config := { maxSteps := 2000000 }) (disch := first | omega | (simp only [K_37 hKb, qb_in, qkW, qmW, qnW, true_and, and_true, or_self, true_or, or_true, and_self]; done) | (simp only [K_37 hKb, qb_in, qkW, qmW, qnW, true_and, and_true, or_self, true_or, or_true, and_self]; omega)) only [zD_293, b293_0, b293_6, b293_9, b293_14, b293_17, b293_21, b293_22, b293_25, b293_28, b293_34, b293_37, b293_38, qcall_l, qcall_r, qretn_l, qJ_s, qJ_n, qV0, qEx, ↓qif0, ↓zchk_pos, ↓reduceIte, qput, qWW, qmW, qkW, qnW, K_37 hKb, ir, ib, hd, Int.reduceEq]
        rfl
  · exact qUn_n5 hH (q_unknown_n d S r b (by omega) hK p5.1 c1)
theorem r_giveIs5 (e : Nat) (S : zS) (k hu b P : Int) (he : 12 ≤ e) (hH : qHB1 S) (h65 : 0 ≤ zm S 37 65 ∧ zm S 37 65 ≤ 20) (hk : 0 ≤ k ∧ k < zm S 37 65) (hb : 0 ≤ b ∧ b < zm S 37 16) (h82 : zm S 82 k = b) (hP : zm S (zm S 8 b) 9 = P) (hPr : 0 ≤ P ∧ P ≤ 121) :
    ∃ m', zD (e + 1) 303 [vr 37, vi k, vi hu] S = zF_303 e 38 [vr 37, vi k, vi hu, vu, vu] [vi (if hu = -1 ∨ (0 ≤ hu ∧ hu < P) then 1 else 0)] (qW S m') ∧ qFly (zm S) m' ∧ qHB1 (qW S m') ∧ q50 S m' := by
  have hK := hH.1.1.1
  have p66 := P_37_66 hH.1.1.2.1
  have ic := r_iscopy_y e S k (by omega) hK h65 hk
  have k20 : k < 20 := by omega
  by_cases c1 : hu = -1
  · refine ⟨zm S, ?_, fun _ _ _ => rfl, by rw [qWS]; exact hH, q50_r S⟩
    rw [if_pos (Or.inl c1), qWS]
    simp (config := { maxSteps := 2000000 }) (disch := first | omega | (simp only [K_37 hK, qb_in, qkW, qmW, qnW, true_and, and_true, or_self, true_or, or_true, and_self]; done) | (simp only [K_37 hK, qb_in, qkW, qmW, qnW, true_and, and_true, or_self, true_or, or_true, and_self]; omega)) only [zD_303, b303_0, b303_5, b303_8, b303_13, b303_25, b303_30, b303_33, b303_37, b303_44, b303_48, b303_58, b303_62, b303_63, b303_66, b303_69, b303_71, b303_76, b303_92, b303_106, b303_113, b303_122, b303_124, qcall_l, qcall_r, qretn_l, qJ_s, qJ_n, qV0, qEx, ↓qif0, ↓zchk_pos, ↓reduceIte, qput, qWW, qmW, qkW, qnW, K_37 hK, ic, if_pos c1, Int.reduceEq]
  · obtain ⟨m', r, fl, g, ld⟩ := r_pagesOf e S b (by omega) hH hb
    rw [hP] at r
    have z1 : z32 (P - 1) = P - 1 := q32 (by omega)
    have i1 := r_in e hu 0 (P - 1) (qW S m') (by omega)
    refine ⟨m', ?_, fl, g, q50_l ld.1 hb⟩
    by_cases c2 : 0 ≤ hu ∧ hu < P
    · rw [if_pos (Or.inr c2)]
      rw [qb_p (show 0 ≤ hu ∧ hu ≤ P - 1 by omega)] at i1
      simp (config := { maxSteps := 2000000 }) (disch := first | omega | (simp only [K_37 hK, K_82 hK, p66, hk.1, k20, qb_in, qkW, qmW, qnW, true_and, and_true, or_self, true_or, or_true, and_self]; done) | (simp only [K_37 hK, K_82 hK, p66, hk.1, k20, qb_in, qkW, qmW, qnW, true_and, and_true, or_self, true_or, or_true, and_self]; omega)) only [zD_303, b303_0, b303_5, b303_8, b303_13, b303_25, b303_30, b303_33, b303_37, b303_44, b303_48, b303_58, b303_62, b303_63, b303_66, b303_69, b303_71, b303_76, b303_92, b303_106, b303_113, b303_122, b303_124, qcall_l, qcall_r, qretn_l, qJ_s, qJ_n, qV0, qEx, ↓qif0, ↓zchk_pos, ↓reduceIte, qput, qWW, qmW, qkW, qnW, K_37 hK, K_82 hK, p66, h82, ic, if_neg c1, r, z1, i1, Int.reduceEq]
    · rw [if_neg (by omega)]
      rw [qb_n (show ¬ (0 ≤ hu ∧ hu ≤ P - 1) by omega)] at i1
      simp (config := { maxSteps := 2000000 }) (disch := first | omega | (simp only [K_37 hK, K_82 hK, p66, hk.1, k20, qb_in, qkW, qmW, qnW, true_and, and_true, or_self, true_or, or_true, and_self]; done) | (simp only [K_37 hK, K_82 hK, p66, hk.1, k20, qb_in, qkW, qmW, qnW, true_and, and_true, or_self, true_or, or_true, and_self]; omega)) only [zD_303, b303_0, b303_5, b303_8, b303_13, b303_25, b303_30, b303_33, b303_37, b303_44, b303_48, b303_58, b303_62, b303_63, b303_66, b303_69, b303_71, b303_76, b303_92, b303_106, b303_113, b303_122, b303_124, qcall_l, qcall_r, qretn_l, qJ_s, qJ_n, qV0, qEx, ↓qif0, ↓zchk_pos, ↓reduceIte, qput, qWW, qmW, qkW, qnW, K_37 hK, K_82 hK, p66, h82, ic, if_neg c1, r, z1, i1, Int.reduceEq]
theorem q_give_y5 (e : Nat) (S : zS) (k hu h b x y w t P : Int) (he : 14 ≤ e) (hH : qHC S) (hk : 0 ≤ k ∧ k < zm S 37 65) (hq : qCq S k b x y w t P) (h86 : zm S 86 k = h) (h0 : 0 ≤ h ∧ h < zm S 37 76) (hhu : hu = -1 ∨ (0 ≤ hu ∧ hu < P)) :
    qUn vi qid (qG5 S) S (zD (e + 1) 148 [vr 3, vi k, vi hu] S) (zD (e + 1) 303 [vr 37, vi k, vi hu]) qpsE := by
  obtain ⟨⟨⟨⟨hK, hP, hL, hn⟩, -, ⟨p1, p2, p3, p4, p5, p6⟩, hY⟩, hBB⟩, hYC, hFc⟩ := id hH
  have hq0 := hq
  obtain ⟨⟨a1, a2, a3, a4, a5, a6⟩, ⟨b1, b2, b3, b4, b5, b6⟩, ⟨ky, ky1, ky2, y103, yn⟩, -⟩ := hq
  obtain ⟨g, hg⟩ : ∃ g, zm S 14 h = g := ⟨_, rfl⟩
  obtain ⟨v, hv⟩ : ∃ v, qlb (zm S) k = v := ⟨_, rfl⟩
  obtain ⟨C, rC, Cg, Cy, C4, C2, C1, Co⟩ := s_giveBack e S k hu h b x y g w t P v (by omega) hH hk hq0 h86 h0 hg hhu hv
  obtain ⟨⟨kg, kg1, g103, gn, g1⟩, -⟩ := p5.2.1 h h0.1 h0.2
  rw [hg] at kg kg1 g103 gn g1
  have n65 := p4.1.2
  have n76 := p5.1.2
  have nky := qknn ky
  have nky1 := qknn ky1
  have nky2 := qknn ky2
  have nkg := qknn kg
  have d87 := (p4.2.1 k hk.1 hk.2).2.2.2.2.2.2.2.2
  have lo : ∀ z, z < 103 → C z = zm S z := fun z hz => Co z (by omega) (by omega) (by omega) (by omega)
  refine Or.inl ⟨v, qW S C, rC, qKs_w S _ (lo 1 (by decide)), ?_⟩
  obtain ⟨M, hM⟩ : ∃ M, qu C 102 0 (qid v) = M := ⟨_, rfl⟩
  have hq1 : qo (qW S C) (qid v) = qW S M := by rw [← hM]; rfl
  have Mo : ∀ z, z ≠ 102 → M z = C z := fun z hz => by rw [← hM, qu_o _ _ _ _ _ hz]
  have Ml : ∀ z, z < 102 → M z = zm S z := fun z hz => by rw [Mo z (by omega), lo z (by omega)]
  have MK : ∀ z, z ≠ 102 → z ≠ g → z ≠ y → z ≠ y + 1 → z ≠ y + 2 → M z = zm S z := fun z h1 h2 h3 h4 h5 => by rw [Mo z h1, Co z h2 h3 h4 h5]
  have H1 : qHB1 (qW S M) := q_give_1 hH kg g103 ky ky1 ky2 y103 MK
  obtain ⟨f1, f2, f3⟩ := (hY.2.1 b b1 b2).1
  have x103 := f3.2.1
  rw [a2] at f1 x103
  have nx := qknn f1
  have M37 : M 37 = zm S 37 := Ml 37 (by decide)
  obtain ⟨m2, r2, fl2, H2, h50⟩ := r_giveIs5 e (qW S M) k hu b P (by omega) H1 (by show 0 ≤ M 37 65 ∧ M 37 65 ≤ 20; rw [M37]; exact n65) (by show 0 ≤ k ∧ k < M 37 65; rw [M37]; exact hk) (by show 0 ≤ b ∧ b < M 37 16; rw [M37]; exact ⟨b1, b2⟩) (by show M 82 k = b; rw [Ml 82 (by decide), a1]) (by
    show M (M 8 b) 9 = P
    rw [Ml 8 (by decide), a2, MK x (by omega) (fun q => by rw [q] at nx; omega) (fun q => by rw [q] at nx; omega) (fun q => by rw [q] at nx; omega) (fun q => by rw [q] at nx; omega), a6]) ⟨by omega, b5⟩
  rw [if_pos hhu] at r2
  have r2 : zD (e + 1) 303 [vr 37, vi k, vi hu] (qW S M) = zF_303 e 38 [vr 37, vi k, vi hu, vu, vu] [vi 1] (qW S m2) := r2
  have fl2 : qFly M m2 := fl2
  have l2 : ∀ z, 81 ≤ z → z ≤ 94 → m2 z = zm S z := fun z z1 z2 => by
    rw [← Ml z (by omega)]
    exact funext fun i => fl2 z i (by unfold qfly; omega)
  have hP2 : qP m2 := H2.1.1.2.1
  have m23 : m2 37 3 = zm S 37 3 := by rw [fl2 37 3 (by unfold qfly; omega), M37]
  obtain ⟨m3, r3, t92, t86, t87, t85, t0, t37, to⟩ := r_giveDo e S m2 k hu h v (by omega) hK hP2 ⟨hk.1, by omega⟩ (by rw [l2 86 (by decide) (by decide), h86]) ⟨h0.1, by omega⟩ (by rw [m23]; exact p2.2) (by rw [l2 87 (by decide) (by decide)]; omega) (by rw [← hv]; unfold qlb; rw [l2 87 (by decide) (by decide), m23]) (by omega)
  -- the same without what lies
  obtain ⟨T, hT⟩ : ∃ T, qhu (qu (qu (qu M 92 h (z32 (M 92 h + v))) 86 k (-1)) 87 k (-1)) k hu = T := ⟨_, rfl⟩
  have T92 : ∀ i, T 92 i = if i = h then z32 (zm S 92 h + v) else zm S 92 i := fun i => by rw [← hT, qhu_o _ _ _ _ (by decide), qu_o _ _ _ _ _ (by decide), qu_o _ _ _ _ _ (by decide), qu_row, Ml 92 (by decide)]
  have T86 : ∀ i, T 86 i = if i = k then -1 else zm S 86 i := fun i => by rw [← hT, qhu_o _ _ _ _ (by decide), qu_o _ _ _ _ _ (by decide), qu_row, qu_o _ _ _ _ _ (by decide), Ml 86 (by decide)]
  have T87 : ∀ i, T 87 i = if i = k then -1 else zm S 87 i := fun i => by rw [← hT, qhu_o _ _ _ _ (by decide), qu_row, qu_o _ _ _ _ _ (by decide), qu_o _ _ _ _ _ (by decide), Ml 87 (by decide)]
  have T85 : ∀ i, T 85 i = qhu (zm S) k hu 85 i := fun i => by rw [← hT, qhu_r, qhu_r, qu_o _ _ _ _ _ (by decide), qu_o _ _ _ _ _ (by decide), qu_o _ _ _ _ _ (by decide), Ml 85 (by decide)]
  have To : ∀ z, z ≠ 92 → z ≠ 86 → z ≠ 87 → z ≠ 85 → T z = M z := fun z z1 z2 z3 z4 => by rw [← hT, qhu_o _ _ _ _ z4, qu_o _ _ _ _ _ z3, qu_o _ _ _ _ _ z2, qu_o _ _ _ _ _ z1]
  have Th : ∀ z, 103 ≤ z → T z = C z := fun z hz => by rw [To z (by omega) (by omega) (by omega) (by omega), Mo z (by omega)]
  have HT : qHC (qW S T) := q_give_T (v := v) hH hk hq0 h86 h0 hg hhu T92 T86 T87 T85 (fun j => by rw [Th g g103, Cg]) (fun j hj => by rw [Th y y103, Cy j hj]) (by rw [Th y y103, C4]) (fun p p1 p2 => by rw [Th _ (by omega), C2 p p1 p2]) (fun i hi => by rw [Th _ (by omega), C1 i hi]) (fun z z1 z2 z3 z4 z5 z6 z7 z8 z9 => by rw [To z z5 z6 z7 z8, MK z z9 z1 z2 z3 z4])
  have f5 : qF0 T m3 := q_give_5 l2 fl2 t92 t86 t87 t85 t37 to T92 T86 T87 T85 To
  have H5 : qHB1 (qW S m3) := qHB1_p H2 fun z j h1 h2 => by
    by_cases q1 : z = 37
    · subst q1
      exact t37 j fun q => h2 ⟨rfl, Or.inl q⟩
    · exact congrFun (to z (fun q => h1 ⟨by rw [q]; decide, by rw [q]; decide⟩) (fun q => h1 ⟨by rw [q]; decide, by rw [q]; decide⟩) (fun q => h1 ⟨by rw [q]; decide, by rw [q]; decide⟩) (fun q => h1 ⟨by rw [q]; decide, by rw [q]; decide⟩) q1) j
  have F5 : qFzz (qW S T) m3 := qF0_z (S := qW S T) f5
  have H6 : qHC (qW S m3) := qHC_z (S := qW S T) HT F5 ⟨qH0_x (S := qW S T) HT.1.1 F5.1, H5.2⟩
  refine ⟨qW S m3, ?_, qKs_w S _ ?_, t0, ?_, q5_w H6 ?_ ?_ (q50_e (q50_w M37 h50) (t37 50 (by decide)))⟩
  · rw [hq1, r2, r3]
  · rw [to 1 (by decide) (by decide) (by decide) (by decide) (by decide), show m2 1 = M 1 from funext fun i => fl2 1 i (by unfold qfly; omega), Ml 1 (by decide)]
  · show m3 102 0 = _
    rw [to 102 (by decide) (by decide) (by decide) (by decide) (by decide), show m2 102 0 = M 102 0 from fl2 102 0 (by unfold qfly; omega), ← hM, qu_s]
  · rw [t37 16 (by decide), show m2 37 16 = M 37 16 from fl2 37 16 (by unfold qfly; omega), M37]
  · rw [t37 65 (by decide), show m2 37 65 = M 37 65 from fl2 37 65 (by unfold qfly; omega), M37]
theorem q_giveBack5 (d : Nat) (S : zS) (k hu : Int) (h : 15 ≤ d) (hH : qHC S) :
    qUn vi qid (qG5 S) S (zD d 148 [vr 3, vi k, vi hu] S) (zD d 303 [vr 37, vi k, vi hu]) qpsE := by
  obtain ⟨⟨⟨⟨hK, hP, hL, hn⟩, -, ⟨p1, p2, p3, p4, p5, p6⟩, hY⟩, hBB⟩, hYC, hFc⟩ := id hH
  by_cases c1 : 0 ≤ k ∧ k < zm S 37 65
  · obtain ⟨e, rfl, he⟩ := qd h
    obtain ⟨b, x, y, w, t, P, q⟩ := hYC.2.1 k c1.1 c1.2
    have q0 := q
    obtain ⟨⟨a1, a2, a3, a4, a5, a6⟩, ⟨b1, b2, b3, b4, b5, b6⟩, ⟨ky, ky1, ky2, y103, yn⟩, ⟨y2, y3, y4⟩, -⟩ := q
    have co := s_copyOf_y e S k (by omega) hK hP p4.1 c1
    obtain ⟨-, -, -, -, -, y6, -, -, dd⟩ := p4.2.1 k c1.1 c1.2
    rw [a3] at co y6
    have n65 := p4.1.2
    have k20 : k < 20 := by omega
    obtain ⟨m2, r2, f2, H2, h50⟩ := r_giveIs5 e (zbump S) k hu b P (by omega) (qHB1_0 hH.1) n65 c1 ⟨b1, b2⟩ a1 (by show zm S (zm S 8 b) 9 = P; rw [a2, a6]) ⟨by omega, b5⟩
    have r2 : zD (e + 1) 303 [vr 37, vi k, vi hu] (zbump S) = zF_303 e 38 [vr 37, vi k, vi hu, vu, vu] [vi (if hu = -1 ∨ (0 ≤ hu ∧ hu < P) then 1 else 0)] (zbump (qW S m2)) := r2
    have hKb2 : qK (zbump (qW S m2)) := hK
    by_cases c2 : hu = -1 ∨ (0 ≤ hu ∧ hu < P)
    · by_cases c3 : zm S 86 k = -1
      · rw [if_pos c2] at r2
        have hd : zD e 182 [vr 37, vi 2] (zbump (qW S m2)) = some (.inl (some (vi 0)), zbump (qW S (qu m2 37 0 2))) := r_holdn e (zbump S) m2 2 (by omega) hK (by decide)
        refine qUn_x5 hH 1 ?_ (by decide) ⟨qu m2 37 0 2, ?_, qF0_t (qF0_l f2) (qF0_u m2 2), qu_s _ _ _ _, qHB_0 (S := S) H2 2, q50_e (S := S) h50 (qu_i _ _ _ _ _ (by decide))⟩
        · have nlt : ¬ hu < -1 := by omega
          have huP : hu < P := by omega
          have y6 : zm S y 6 = -1 := y6.trans c3
          simp (config := { maxSteps := 2000000 }) (disch := first | omega | (simp only [K_3 hK, ky, y3, ky2, qb_in, qkW, qmW, qnW, true_and, and_true, or_self, true_or, or_true, and_self]; done) | (simp only [K_3 hK, ky, y3, ky2, qb_in, qkW, qmW, qnW, true_and, and_true, or_self, true_or, or_true, and_self]; omega)) only [zD_148, b148_0, b148_5, b148_11, b148_20, b148_31, b148_39, b148_50, b148_58, b148_68, b148_88, b148_97, b148_102, b148_107, qcall_l, qcall_r, qretn_l, qJ_s, qJ_n, qV0, qEx, ↓qif0, ↓zchk_pos, ↓reduceIte, qput, qWW, qmW, qkW, qnW, K_3 hK, co, if_neg nlt, ky, y3, ky2, if_pos huP, y6, Int.reduceEq]
        · have p70 : zm (zbump (qW S m2)) 37 70 = 86 := P_37_70 H2.1.1.2.1
          have q86 : zm (zbump (qW S m2)) 86 k = -1 := by
            show m2 86 k = -1
            rw [f2 86 k (by unfold qfly; omega)]
            exact c3
          rw [r2, b303_38]
          simp (config := { maxSteps := 2000000 }) (disch := first | omega | (simp only [K_37 hKb2, K_86 hKb2, p70, c1.1, k20, qb_in, qkW, qmW, qnW, true_and, and_true, or_self, true_or, or_true, and_self]; done) | (simp only [K_37 hKb2, K_86 hKb2, p70, c1.1, k20, qb_in, qkW, qmW, qnW, true_and, and_true, or_self, true_or, or_true, and_self]; omega)) only [b303_0, b303_5, b303_8, b303_13, b303_25, b303_30, b303_33, b303_37, b303_38, b303_44, b303_48, b303_58, b303_62, b303_63, b303_66, b303_69, b303_71, b303_76, b303_92, b303_106, b303_113, b303_122, b303_124, qcall_l, qcall_r, qretn_l, qJ_s, qJ_n, qV0, qEx, ↓qif0, ↓zchk_pos, ↓reduceIte, qput, qWW, qmW, qkW, qnW, K_37 hKb2, K_86 hKb2, p70, q86, hd, Int.reduceEq]
      · obtain ⟨d1, -⟩ := dd.resolve_left fun q => c3 q.1
        exact q_give_y5 e S k hu _ b x y w t P he hH c1 q0 rfl d1 c2
    · rw [if_neg c2] at r2
      have hd : zD e 182 [vr 37, vi 1] (zbump (qW S m2)) = some (.inl (some (vi 0)), zbump (qW S (qu m2 37 0 1))) := r_holdn e (zbump S) m2 1 (by omega) hK (by decide)
      refine qUn_x5 hH 2 ?_ (by decide) ⟨qu m2 37 0 1, ?_, qF0_t (qF0_l f2) (qF0_u m2 1), qu_s _ _ _ _, qHB_0 (S := S) H2 1, q50_e (S := S) h50 (qu_i _ _ _ _ _ (by decide))⟩
      · by_cases c4 : hu < -1
        · simp (config := { maxSteps := 2000000 }) (disch := first | omega | (simp only [K_3 hK, qb_in, qkW, qmW, qnW, true_and, and_true, or_self, true_or, or_true, and_self]; done) | (simp only [K_3 hK, qb_in, qkW, qmW, qnW, true_and, and_true, or_self, true_or, or_true, and_self]; omega)) only [zD_148, b148_0, b148_5, b148_11, b148_20, b148_31, b148_39, b148_50, b148_58, b148_68, b148_88, b148_97, b148_102, b148_107, qcall_l, qcall_r, qretn_l, qJ_s, qJ_n, qV0, qEx, ↓qif0, ↓zchk_pos, ↓reduceIte, qput, qWW, qmW, qkW, qnW, K_3 hK, co, if_pos c4]
        · simp (config := { maxSteps := 2000000 }) (disch := first | omega | (simp only [K_3 hK, ky, y3, ky2, qb_in, qkW, qmW, qnW, true_and, and_true, or_self, true_or, or_true, and_self]; done) | (simp only [K_3 hK, ky, y3, ky2, qb_in, qkW, qmW, qnW, true_and, and_true, or_self, true_or, or_true, and_self]; omega)) only [zD_148, b148_0, b148_5, b148_11, b148_20, b148_31, b148_39, b148_50, b148_58, b148_68, b148_88, b148_97, b148_102, b148_107, qcall_l, qcall_r, qretn_l, qJ_s, qJ_n, qV0, qEx, ↓qif0, ↓zchk_pos, ↓reduceIte, qput, qWW, qmW, qkW, qnW, K_3 hK, co, if_neg c4, ky, y3, ky2, if_neg (show ¬ hu < P by omega)]
      · rw [r2, b303_38]
        simp (config := { maxSteps := 2000000 }) (disch := first | omega | (simp only [K_37 hKb2, qb_in, qkW, qmW, qnW, true_and, and_true, or_self, true_or, or_true, and_self]; done) | (simp only [K_37 hKb2, qb_in, qkW, qmW, qnW, true_and, and_true, or_self, true_or, or_true, and_self]; omega)) only [b303_0, b303_5, b303_8, b303_13, b303_25, b303_30, b303_33, b303_37, b303_38, b303_44, b303_48, b303_58, b303_62, b303_63, b303_66, b303_69, b303_71, b303_76, b303_92, b303_106, b303_113, b303_122, b303_124, qcall_l, qcall_r, qretn_l, qJ_s, qJ_n, qV0, qEx, ↓qif0, ↓zchk_pos, ↓reduceIte, qput, qWW, qmW, qkW, qnW, K_37 hKb2, hd, Int.reduceEq]
  · exact qUn_n5 hH (q_giveBack_n d S k hu (by omega) hK p4.1 c1)
theorem q_wish_y5 (e : Nat) (S : zS) (r b : Int) (he : 14 ≤ e) (hH : qHC S) (c1 : 0 ≤ r ∧ r < zm S 37 76) (c2 : 0 ≤ b ∧ b < zm S 37 16) (hu : quk (zm S) r b = 0) (hw0 : qwi (zm S) r b (zm S 37 80).toNat = -1) (hq : qhl (zm S) r b (zm S 37 65).toNat = 0) (c6 : zm S 37 80 < 30) :
    qUn vi qid (qG5 S) S (zD (e + 1) 144 [vr 3, vi r, vi b] S) (zD (e + 1) 296 [vr 37, vi r, vi b]) qpsE := by
  obtain ⟨⟨⟨⟨hK, hP, hL, hn⟩, ⟨hT, hC, hR, hk⟩, ⟨p1, p2, p3, p4, p5, p6⟩, hY⟩, hBB⟩, hYC, hFc⟩ := id hH
  have ro := s_readerOf_y e S r (by omega) hK hP p5.1 c1
  have r6 : 0 ≤ r ∧ r < 6 := ⟨c1.1, by have := p5.1.2; omega⟩
  have bo := s_bookOf_y e S b (by omega) hK hP hY.1 c2
  have su := s_countUnknown e S r b (by omega) hH.1 c1 c2
  have fi := s_find e S r b (by omega) hK hP p3
  have hc := s_hasCopyOf e S r b (by omega) hK hP p4 (by omega)
  obtain ⟨n80, n80b, n80c⟩ := p3.1
  have n65 := p4.1.2
  have p17 : ∀ i, 0 ≤ i → i < zm S 37 80 → zm S 17 i = zm S 94 i := fun i i1 i2 => (p3.2.1 i i1 i2).2.1
  have n76 := p5.1.2
  rw [hu] at su
  rw [hw0] at fi
  rw [hq] at hc
  clear p1 p2 p3 p4 p5 p6 hT hR hk hYC hFc
  obtain ⟨n, hnn⟩ : ∃ n : Nat, zm S 37 80 = (n : Int) := ⟨(zm S 37 80).toNat, by omega⟩
  rw [hnn] at n80 n80b n80c c6
  have zr : -2147483648 ≤ (n : Int) + 1 ∧ (n : Int) + 1 < 2147483648 := by omega
  have wa := s_wishAppend e S r b n (by omega) hK hP n80 ⟨by omega, c6⟩
  obtain ⟨A, hA⟩ : ∃ A, qu (qu (qu (zm S) 16 n r) 17 n b) 15 2 ((n : Int) + 1) = A := ⟨_, rfl⟩
  rw [hA] at wa
  have A17 : ∀ i, A 17 i = if i = (n : Int) then b else zm S 17 i := fun i => by rw [← hA, qu_o _ _ _ _ _ (by decide), qu_row, qu_o _ _ _ _ _ (by decide)]
  have A16 : ∀ i, A 16 i = if i = (n : Int) then r else zm S 16 i := fun i => by rw [← hA, qu_o _ _ _ _ _ (by decide), qu_o _ _ _ _ _ (by decide), qu_row]
  have A15 : A 15 2 = ((n + 1 : Nat) : Int) := by rw [← hA, qu_s]; rfl
  have Ao : ∀ z, z ≠ 15 → z ≠ 16 → z ≠ 17 → A z = zm S z := fun z z1 z2 z3 => by rw [← hA, qu_o _ _ _ _ _ z1, qu_o _ _ _ _ _ z3, qu_o _ _ _ _ _ z2]
  have A5 : ∀ j, j ≠ 2 → A 15 j = zm S 15 j := fun j hj => by rw [← hA, qu_i _ _ _ _ _ hj, qu_o _ _ _ _ _ (by decide), qu_o _ _ _ _ _ (by decide)]
  have HA : qHB1 (qW S A) := qHB1_m (qHB1_0 hH.1) (qAg_w fun z j hz => by
    by_cases z1 : z = 15
    · subst z1
      exact A5 j fun q => hz (by unfold qEh; omega)
    · exact congrFun (Ao z z1 (fun q => hz (by unfold qEh; omega)) fun q => hz (by unfold qEh; omega)) j)
  have hPA : qP A := HA.1.1.2.1
  have cf := s_countFor2 e (qW S A) b (n + 1) (by omega) hK hPA A15 (by omega)
  obtain ⟨v, hv⟩ : ∃ v, qcv (A 17) b (n + 1) = v := ⟨_, rfl⟩
  rw [show qcv (zm (qW S A) 17) b (n + 1) = v from hv] at cf
  have x3 : A 3 = zm S 3 := Ao 3 (by decide) (by decide) (by decide)
  have x12 : A 3 12 = 15 := by rw [x3]; exact P_3_12 hP
  refine Or.inl ⟨v, qW S A, ?_, qKs_w S _ (Ao 1 (by decide) (by decide) (by decide)), ?_⟩
  · simp (config := { maxSteps := 2000000 }) (disch := first | omega | (simp only [K_3 hK, K_15 hK, P_3_12 hP, x12, qb_in, qkW, qmW, qnW, true_and, and_true, or_self, true_or, or_true, and_self]; done) | (simp only [K_3 hK, K_15 hK, P_3_12 hP, x12, qb_in, qkW, qmW, qnW, true_and, and_true, or_self, true_or, or_true, and_self]; omega)) only [zD_144, b144_0, b144_5, b144_10, b144_13, b144_16, b144_27, b144_36, b144_40, b144_46, b144_49, b144_61, b144_72, b144_81, b144_89, qcall_l, qcall_r, qretn_l, qJ_s, qJ_n, qV0, qEx, ↓qif0, ↓zchk_pos, ↓reduceIte, qput, qWW, qmW, qkW, qnW, K_3 hK, K_15 hK, P_3_12 hP, ro, bo, su, Int.lt_irrefl, fi, hc, n80, if_pos c6, wa, x12, cf, Int.reduceEq]
  · obtain ⟨m1, hm1⟩ : ∃ m1, qu A 102 0 (qid v) = m1 := ⟨_, rfl⟩
    have hq1 : qo (qW S A) (qid v) = qW S m1 := by rw [← hm1]; rfl
    have k1 : ∀ z, z ≠ 102 → m1 z = A z := fun z h1 => by rw [← hm1, qu_o _ _ _ _ _ h1]
    have k1s : ∀ z, z ≠ 102 → z ≠ 15 → z ≠ 16 → z ≠ 17 → m1 z = zm S z := fun z h1 h2 h3 h4 => by rw [k1 z h1, Ao z h2 h3 h4]
    have H1 : qHB1 (qW S m1) := by
      rw [← hm1]
      exact qHB_q HA (qFq_o (S := qW S A) (qFq_r (qW S A)) _)
    have k37 : m1 37 = zm S 37 := k1s 37 (by decide) (by decide) (by decide) (by decide)
    have ir := r_isreader_y e (qW S m1) r (by omega) hK (by show 0 ≤ m1 37 76 ∧ m1 37 76 ≤ 6; rw [k37]; exact n76) (by show 0 ≤ r ∧ r < m1 37 76; rw [k37]; exact c1)
    have ib := r_isbook_y e (qW S m1) b (by omega) hK H1.1.2.2.1.2 (by show 0 ≤ b ∧ b < m1 37 16; rw [k37]; exact c2)
    obtain ⟨m3, r3, f3, H3, l50⟩ := r_unknownTo e (qW S m1) r b (by omega) H1 r6 (by show 0 ≤ b ∧ b < m1 37 16; rw [k37]; exact c2)
    rw [show quk (zm (qW S m1)) r b = 0 from (quk_e hH.1 c2 (k1s 8 (by decide) (by decide) (by decide) (by decide)) (k1s 49 (by decide) (by decide) (by decide) (by decide)) (k1s 54 (by decide) (by decide) (by decide) (by decide)) (k1s 91 (by decide) (by decide) (by decide) (by decide)) fun x hx => k1s x (by omega) (by omega) (by omega) (by omega)).trans hu] at r3
    have r3 : zD e 292 [vr 37, vi r, vi b] (qW S m1) = some (.inl (some (vi 0)), qW S m3) := r3
    have l3 : ∀ x, 81 ≤ x → x ≤ 94 → m3 x = zm S x := fun x x1 x2 => by
      rw [← k1s x (by omega) (by omega) (by omega) (by omega)]
      exact funext fun i => f3 x i (by unfold qfly; omega)
    have q80 : m3 37 80 = (n : Int) := by rw [← hnn, ← k37]; exact f3 37 80 (by unfold qfly; omega)
    have q65 : m3 37 65 = zm S 37 65 := by rw [← k37]; exact f3 37 65 (by unfold qfly; omega)
    have hP3 : qP m3 := H3.1.1.2.1
    have wo := r_wishOf e (qW S m3) r b (by omega) hK hP3 (by show 0 ≤ m3 37 80 ∧ m3 37 80 ≤ 30; omega)
    have hl := r_held e (qW S m3) r b (by omega) hK hP3 (by show 0 ≤ m3 37 65 ∧ m3 37 65 ≤ 20; omega)
    rw [show qwi (zm (qW S m3)) r b (zm (qW S m3) 37 80).toNat = -1 by show qwi m3 r b (m3 37 80).toNat = _; rw [q80, ← hnn, ← hw0]; exact qwi_e (l3 94 (by decide) (by decide)) (l3 93 (by decide) (by decide)) r b _] at wo
    rw [show qhl (zm (qW S m3)) r b (zm (qW S m3) 37 65).toNat = 0 by show qhl m3 r b (m3 37 65).toNat = _; rw [q65, ← hq]; exact qhl_e (l3 86 (by decide) (by decide)) (l3 82 (by decide) (by decide)) r b _] at hl
    have hd := r_hold0 e S m3 (by omega) hK
    obtain ⟨m4, hm4⟩ : ∃ m4, qu m3 37 0 0 = m4 := ⟨_, rfl⟩
    rw [hm4] at hd
    have y80 : m4 37 80 = (n : Int) := by rw [← hm4, qu_i _ _ _ _ _ (by decide), q80]
    have y81 : m4 37 81 = 93 := by rw [← hm4, qu_i _ _ _ _ _ (by decide)]; exact P_37_81 hP3
    have y82 : m4 37 82 = 94 := by rw [← hm4, qu_i _ _ _ _ _ (by decide)]; exact P_37_82 hP3
    have B1 : qu m4 93 n r 37 = m4 37 := qu_o _ _ _ _ _ (by decide)
    have B2 : qu (qu m4 93 n r) 94 n b 37 = m4 37 := by rw [qu_o _ _ _ _ _ (by decide), B1]
    obtain ⟨m5, hm5⟩ : ∃ m5, qu (qu (qu m4 93 n r) 94 n b) 37 80 ((n : Int) + 1) = m5 := ⟨_, rfl⟩
    have w80 : m5 37 80 = ((n + 1 : Nat) : Int) := by rw [← hm5, qu_s]; rfl
    have w82 : m5 37 82 = 94 := by rw [← hm5, qu_i _ _ _ _ _ (by decide), B2, y82]
    have w94 : ∀ i, m5 94 i = if i = (n : Int) then b else zm S 94 i := fun i => by rw [← hm5, qu_o _ _ _ _ _ (by decide), qu_row, qu_o _ _ _ _ _ (by decide), ← hm4, qu_o _ _ _ _ _ (by decide), l3 94 (by decide) (by decide)]
    have w93 : ∀ i, m5 93 i = if i = (n : Int) then r else zm S 93 i := fun i => by rw [← hm5, qu_o _ _ _ _ _ (by decide), qu_o _ _ _ _ _ (by decide), qu_row, ← hm4, qu_o _ _ _ _ _ (by decide), l3 93 (by decide) (by decide)]
    have wz : ∀ z, z ≠ 37 → z ≠ 93 → z ≠ 94 → m5 z = m3 z := fun z h1 h2 h3 => by rw [← hm5, qu_o _ _ _ _ _ h1, qu_o _ _ _ _ _ h3, qu_o _ _ _ _ _ h2, ← hm4, qu_o _ _ _ _ _ h1]
    have w37 : ∀ j, j ≠ 0 → j ≠ 80 → m5 37 j = m3 37 j := fun j h1 h2 => by rw [← hm5, qu_i _ _ _ _ _ h2, B2, ← hm4, qu_i _ _ _ _ _ h1]
    have ct := r_wishCount e S m5 b (n + 1) vu vu vu hK w80 w82 (by omega) (n + 1) 0 vu (by omega)
    have ev : qcv (m5 94) b (n + 1) = v := by
      rw [← hv]
      refine qcv_c _ _ fun i hi => ?_
      rw [w94, A17]
      by_cases ci : (i : Int) = n
      · rw [if_pos ci, if_pos ci]
      · rw [if_neg ci, if_neg ci]
        exact (p17 i (Int.natCast_nonneg i) (by rw [hnn]; omega)).symm
    rw [ev] at ct
    have ct : zF_296 e 133 [vr 37, vu, vi b, vu, vu, vi 0, vi 0] [] (qW S m5) = some (.inl (some (vi v)), qW S m5) := ct
    have ct1 : zF_296 e 133 [vr 37, vi r, vi b, vu, vu, vi 0, vi 0] [] (qW S m5) = some (.inl (some (vi v)), qW S m5) := by
      rw [b296_133] at ct ⊢
      exact ct
    -- what is known behind it
    obtain ⟨mT, hmT⟩ : ∃ mT, qu (qu (qu m1 93 n r) 94 n b) 37 80 ((n : Int) + 1) = mT := ⟨_, rfl⟩
    have T37 : ∀ j, j ≠ 80 → mT 37 j = zm S 37 j := fun j hj => by rw [← hmT, qu_i _ _ _ _ _ hj, qu_o _ _ _ _ _ (by decide), qu_o _ _ _ _ _ (by decide), k37]
    have T80 : mT 37 80 = (n : Int) + 1 := by rw [← hmT, qu_s]
    have T94 : ∀ i, mT 94 i = if i = (n : Int) then b else zm S 94 i := fun i => by rw [← hmT, qu_o _ _ _ _ _ (by decide), qu_row, qu_o _ _ _ _ _ (by decide), k1s 94 (by decide) (by decide) (by decide) (by decide)]
    have T93 : ∀ i, mT 93 i = if i = (n : Int) then r else zm S 93 i := fun i => by rw [← hmT, qu_o _ _ _ _ _ (by decide), qu_o _ _ _ _ _ (by decide), qu_row, k1s 93 (by decide) (by decide) (by decide) (by decide)]
    have Tz : ∀ z, z ≠ 37 → z ≠ 93 → z ≠ 94 → mT z = m1 z := fun z h1 h2 h3 => by rw [← hmT, qu_o _ _ _ _ _ h1, qu_o _ _ _ _ _ h3, qu_o _ _ _ _ _ h2]
    have HT : qHC (qW S mT) := q_wish_T hH c1 c2 hnn c6 hw0 T80 T37 (fun i => by rw [Tz 16 (by decide) (by decide) (by decide), k1 16 (by decide), A16]) (fun i => by rw [Tz 17 (by decide) (by decide) (by decide), k1 17 (by decide), A17]) T93 T94 (by rw [Tz 15 (by decide) (by decide) (by decide), k1 15 (by decide), A15]; rfl) (fun j hj => by rw [Tz 15 (by decide) (by decide) (by decide), k1 15 (by decide), A5 j hj]) (fun z h1 h2 h3 h4 h5 h6 h7 => by rw [Tz z h1 h2 h3, k1 z h4, Ao z h5 h6 h7])
    have f5 : qF0 mT m5 := fun z i hz => by
      by_cases q1 : z = 37
      · subst q1
        by_cases q2 : i = 80
        · rw [q2, w80, T80]; rfl
        · rw [w37 i (fun q => hz (Or.inr ⟨rfl, q⟩)) q2, T37 i q2, f3 37 i (fun q => hz (Or.inl q))]
          show m1 37 i = _
          rw [k37]
      · by_cases q2 : z = 93
        · subst q2
          rw [w93, T93]
        · by_cases q3 : z = 94
          · subst q3
            rw [w94, T94]
          · rw [wz z q1 q2 q3, Tz z q1 q2 q3]
            exact f3 z i fun q => hz (Or.inl q)
    have H5 : qHB1 (qW S m5) := qHB1_m (S := qW S m3) H3 ⟨⟨Nat.le_refl _, fun _ _ => rfl⟩, fun z j _ hz => by
      show m5 z j = m3 z j
      by_cases q1 : z = 37
      · subst q1
        exact w37 j (fun q => hz (by unfold qEh; omega)) fun q => hz (by unfold qEh; omega)
      · rw [wz z q1 (fun q => hz (by unfold qEh; omega)) fun q => hz (by unfold qEh; omega)]⟩
    have F5 : qFzz (qW S mT) m5 := qF0_z (S := qW S mT) f5
    have H6 : qHC (qW S m5) := qHC_z (S := qW S mT) HT F5 ⟨qH0_x (S := qW S mT) HT.1.1 F5.1, H5.2⟩
    refine ⟨qW S m5, ?_, qKs_w S _ ?_, ?_, ?_, q5_w H6 ?_ ?_ (q50_l ((w37 50 (by decide) (by decide)).trans l50.1) c2)⟩
    · rw [hq1]
      simp (config := { maxSteps := 2000000 }) (disch := first | omega | (simp only [K_37 hK, K_93 hK, K_94 hK, q80, y80, y81, y82, B1, B2, qb_in, qkW, qmW, qnW, true_and, and_true, or_self, true_or, or_true, and_self]; done) | (simp only [K_37 hK, K_93 hK, K_94 hK, q80, y80, y81, y82, B1, B2, qb_in, qkW, qmW, qnW, true_and, and_true, or_self, true_or, or_true, and_self]; omega)) only [zD_296, b296_0, b296_5, b296_8, b296_13, b296_16, b296_20, b296_21, b296_26, b296_32, b296_35, b296_41, b296_45, b296_51, b296_54, b296_63, b296_67, b296_68, b296_75, b296_79, b296_84, b296_88, b296_89, b296_92, b296_95, b296_97, b296_115, b296_130, b296_142, b296_155, b296_159, b296_160, b296_169, qcall_l, qcall_r, qretn_l, qJ_s, qJ_n, qV0, qEx, ↓qif0, ↓zchk_pos, ↓reduceIte, qput, qWW, qmW, qkW, qnW, K_37 hK, K_93 hK, K_94 hK, ir, ib, r3, wo, hl, q80, if_pos c6, hd, y80, y81, y82, B1, B2, q32 (x := (n : Int) + 1) zr, hm5, ct1, Int.reduceEq]
    · rw [wz 1 (by decide) (by decide) (by decide), show m3 1 = m1 1 from funext fun i => f3 1 i (by unfold qfly; omega), k1s 1 (by decide) (by decide) (by decide) (by decide)]
    · show m5 37 0 = 0
      rw [← hm5, qu_i _ _ _ _ _ (by decide), B2, ← hm4, qu_s]
    · show m5 102 0 = _
      rw [wz 102 (by decide) (by decide) (by decide), show m3 102 0 = m1 102 0 from f3 102 0 (by unfold qfly; omega), ← hm1, qu_s]
    · rw [w37 16 (by decide) (by decide), show m3 37 16 = m1 37 16 from f3 37 16 (by unfold qfly; omega), k37]
    · rw [w37 65 (by decide) (by decide), q65]
theorem q_wish5 (d : Nat) (S : zS) (r b : Int) (h : 15 ≤ d) (hH : qHC S) :
    qUn vi qid (qG5 S) S (zD d 144 [vr 3, vi r, vi b] S) (zD d 296 [vr 37, vi r, vi b]) qpsE := by
  obtain ⟨⟨⟨⟨hK, hP, hL, hn⟩, ⟨hT, hC, hR, hk⟩, ⟨p1, p2, p3, p4, p5, p6⟩, hY⟩, hBB⟩, hYC, hFc⟩ := id hH
  have hKb : qK (zbump S) := hK
  by_cases c1 : 0 ≤ r ∧ r < zm S 37 76
  · obtain ⟨e, rfl, he⟩ := qd h
    have ro := s_readerOf_y e S r (by omega) hK hP p5.1 c1
    have kr := (p5.2.1 r c1.1 c1.2).1.1
    have r6 : 0 ≤ r ∧ r < 6 := ⟨c1.1, by have := p5.1.2; omega⟩
    have irb := r_isreader_y e (zbump S) r (by omega) hK p5.1.2 c1
    by_cases c2 : 0 ≤ b ∧ b < zm S 37 16
    · have bo := s_bookOf_y e S b (by omega) hK hP hY.1 c2
      have kb := (hY.2.1 b c2.1 c2.2).1.1
      have su := s_countUnknown e S r b (by omega) hH.1 c1 c2
      have ibb := r_isbook_y e (zbump S) b (by omega) hK hY.1.2 c2
      have fi := s_find e S r b (by omega) hK hP p3
      have hc := s_hasCopyOf e S r b (by omega) hK hP p4 (by omega)
      obtain ⟨n80, n80b, n80c⟩ := p3.1
      have n65 := p4.1.2
      have uu : 0 ≤ quk (zm S) r b := (qnk_r _ _ _).1
      -- the reference, refused
      obtain ⟨m2, r2, f2, H2, l50⟩ := r_unknownTo e (zbump S) r b (by omega) (qHB1_0 hH.1) r6 c2
      have r2 : zD e 292 [vr 37, vi r, vi b] (zbump S) = some (.inl (some (vi (quk (zm S) r b))), zbump (qW S m2)) := r2
      have hKb2 : qK (zbump (qW S m2)) := hK
      have l2 : ∀ x, (81 ≤ x ∧ x ≤ 94) → m2 x = zm S x := fun x hx => funext fun i => f2 x i (by unfold qfly; omega)
      have e80 : m2 37 80 = zm S 37 80 := f2 37 80 (by unfold qfly; omega)
      have e65 : m2 37 65 = zm S 37 65 := f2 37 65 (by unfold qfly; omega)
      have wo := r_wishOf e (zbump (qW S m2)) r b (by omega) hKb2 H2.1.1.2.1 (by show 0 ≤ m2 37 80 ∧ m2 37 80 ≤ 30; omega)
      have hl := r_held e (zbump (qW S m2)) r b (by omega) hKb2 H2.1.1.2.1 (by show 0 ≤ m2 37 65 ∧ m2 37 65 ≤ 20; omega)
      rw [show qwi (zm (zbump (qW S m2))) r b (zm (zbump (qW S m2)) 37 80).toNat = qwi (zm S) r b (zm S 37 80).toNat by show qwi m2 r b (m2 37 80).toNat = _; rw [e80]; exact qwi_e (l2 94 (by decide)) (l2 93 (by decide)) r b _] at wo
      rw [show qhl (zm (zbump (qW S m2))) r b (zm (zbump (qW S m2)) 37 65).toNat = qhl (zm S) r b (zm S 37 65).toNat by show qhl m2 r b (m2 37 65).toNat = _; rw [e65]; exact qhl_e (l2 86 (by decide)) (l2 82 (by decide)) r b _] at hl
      have hd : zD e 182 [vr 37, vi 2] (zbump (qW S m2)) = some (.inl (some (vi 0)), zbump (qW S (qu m2 37 0 2))) := r_holdn e (zbump S) m2 2 (by omega) hK (by decide)
      have b80 : zm (zbump (qW S m2)) 37 80 = zm S 37 80 := e80
      have refused : ∀ R, R = some (.inr 1, zbump S) → zD (e + 1) 296 [vr 37, vi r, vi b] (zbump S) = some (.inl (some (vi 0)), zbump (qW S (qu m2 37 0 2))) → qUn vi qid (qG5 S) S R (zD (e + 1) 296 [vr 37, vi r, vi b]) qpsE := fun R hR hF => qUn_x5 hH 1 hR (by decide) ⟨qu m2 37 0 2, hF, qF0_t (qF0_l f2) (qF0_u m2 2), qu_s _ _ _ _, qHB_0 (S := S) H2 2, q50_l (b := b) (by rw [qu_i _ _ _ _ _ (by decide)]; exact l50.1) c2⟩
      obtain ⟨u, hu⟩ : ∃ u, quk (zm S) r b = u := ⟨_, rfl⟩
      obtain ⟨w, hw⟩ : ∃ w, qwi (zm S) r b (zm S 37 80).toNat = w := ⟨_, rfl⟩
      obtain ⟨q, hq⟩ : ∃ q, qhl (zm S) r b (zm S 37 65).toNat = q := ⟨_, rfl⟩
      rw [hu] at su r2 uu
      rw [hw] at fi wo
      rw [hq] at hc hl
      by_cases c3 : u = 0
      · by_cases c4 : w = -1
        · by_cases c5 : q = 0
          · by_cases c6 : zm S 37 80 < 30
            · exact q_wish_y5 e S r b he hH c1 c2 (hu.trans c3) (hw.trans c4) (hq.trans c5) c6
            · refine refused _ ?_ ?_
              · simp (config := { maxSteps := 2000000 }) (disch := first | omega | (simp only [K_3 hK, K_15 hK, P_3_12 hP, qb_in, qkW, qmW, qnW, true_and, and_true, or_self, true_or, or_true, and_self]; done) | (simp only [K_3 hK, K_15 hK, P_3_12 hP, qb_in, qkW, qmW, qnW, true_and, and_true, or_self, true_or, or_true, and_self]; omega)) only [zD_144, b144_0, b144_5, b144_10, b144_13, b144_16, b144_27, b144_36, b144_40, b144_46, b144_49, b144_61, b144_72, b144_81, b144_89, qcall_l, qcall_r, qretn_l, qJ_s, qJ_n, qV0, qEx, ↓qif0, ↓zchk_pos, ↓reduceIte, qput, qWW, qmW, qkW, qnW, K_3 hK, K_15 hK, P_3_12 hP, ro, bo, su, c3, Int.lt_irrefl, fi, c4, hc, c5, n80, if_neg c6, Int.reduceEq]
              · simp (config := { maxSteps := 2000000 }) (disch := first | omega | (simp only [K_37 hKb, K_37 hKb2, qb_in, qkW, qmW, qnW, true_and, and_true, or_self, true_or, or_true, and_self]; done) | (simp only [K_37 hKb, K_37 hKb2, qb_in, qkW, qmW, qnW, true_and, and_true, or_self, true_or, or_true, and_self]; omega)) only [zD_296, b296_0, b296_5, b296_8, b296_13, b296_16, b296_20, b296_21, b296_26, b296_32, b296_35, b296_41, b296_45, b296_51, b296_54, b296_63, b296_67, b296_68, b296_75, b296_79, b296_84, b296_88, b296_89, b296_92, b296_95, b296_97, b296_115, b296_130, b296_142, b296_155, b296_159, b296_160, b296_169, qcall_l, qcall_r, qretn_l, qJ_s, qJ_n, qV0, qEx, ↓qif0, ↓zchk_pos, ↓reduceIte, qput, qWW, qmW, qkW, qnW, K_37 hKb, K_37 hKb2, irb, ibb, r2, c3, wo, c4, hl, c5, b80, if_neg c6, hd, Int.reduceEq]
          · refine refused _ ?_ ?_
            · simp (config := { maxSteps := 2000000 }) (disch := first | omega | (simp only [K_3 hK, K_15 hK, P_3_12 hP, qb_in, qkW, qmW, qnW, true_and, and_true, or_self, true_or, or_true, and_self]; done) | (simp only [K_3 hK, K_15 hK, P_3_12 hP, qb_in, qkW, qmW, qnW, true_and, and_true, or_self, true_or, or_true, and_self]; omega)) only [zD_144, b144_0, b144_5, b144_10, b144_13, b144_16, b144_27, b144_36, b144_40, b144_46, b144_49, b144_61, b144_72, b144_81, b144_89, qcall_l, qcall_r, qretn_l, qJ_s, qJ_n, qV0, qEx, ↓qif0, ↓zchk_pos, ↓reduceIte, qput, qWW, qmW, qkW, qnW, K_3 hK, K_15 hK, P_3_12 hP, ro, bo, su, c3, Int.lt_irrefl, fi, c4, hc, if_neg c5, Int.reduceEq]
            · simp (config := { maxSteps := 2000000 }) (disch := first | omega | (simp only [K_37 hKb, K_37 hKb2, qb_in, qkW, qmW, qnW, true_and, and_true, or_self, true_or, or_true, and_self]; done) | (simp only [K_37 hKb, K_37 hKb2, qb_in, qkW, qmW, qnW, true_and, and_true, or_self, true_or, or_true, and_self]; omega)) only [zD_296, b296_0, b296_5, b296_8, b296_13, b296_16, b296_20, b296_21, b296_26, b296_32, b296_35, b296_41, b296_45, b296_51, b296_54, b296_63, b296_67, b296_68, b296_75, b296_79, b296_84, b296_88, b296_89, b296_92, b296_95, b296_97, b296_115, b296_130, b296_142, b296_155, b296_159, b296_160, b296_169, qcall_l, qcall_r, qretn_l, qJ_s, qJ_n, qV0, qEx, ↓qif0, ↓zchk_pos, ↓reduceIte, qput, qWW, qmW, qkW, qnW, K_37 hKb, K_37 hKb2, irb, ibb, r2, c3, wo, c4, hl, if_neg c5, hd, Int.reduceEq]
        · refine refused _ ?_ ?_
          · simp (config := { maxSteps := 2000000 }) (disch := first | omega | (simp only [K_3 hK, K_15 hK, P_3_12 hP, qb_in, qkW, qmW, qnW, true_and, and_true, or_self, true_or, or_true, and_self]; done) | (simp only [K_3 hK, K_15 hK, P_3_12 hP, qb_in, qkW, qmW, qnW, true_and, and_true, or_self, true_or, or_true, and_self]; omega)) only [zD_144, b144_0, b144_5, b144_10, b144_13, b144_16, b144_27, b144_36, b144_40, b144_46, b144_49, b144_61, b144_72, b144_81, b144_89, qcall_l, qcall_r, qretn_l, qJ_s, qJ_n, qV0, qEx, ↓qif0, ↓zchk_pos, ↓reduceIte, qput, qWW, qmW, qkW, qnW, K_3 hK, K_15 hK, P_3_12 hP, ro, bo, su, c3, Int.lt_irrefl, fi, if_neg c4]
          · simp (config := { maxSteps := 2000000 }) (disch := first | omega | (simp only [K_37 hKb, K_37 hKb2, qb_in, qkW, qmW, qnW, true_and, and_true, or_self, true_or, or_true, and_self]; done) | (simp only [K_37 hKb, K_37 hKb2, qb_in, qkW, qmW, qnW, true_and, and_true, or_self, true_or, or_true, and_self]; omega)) only [zD_296, b296_0, b296_5, b296_8, b296_13, b296_16, b296_20, b296_21, b296_26, b296_32, b296_35, b296_41, b296_45, b296_51, b296_54, b296_63, b296_67, b296_68, b296_75, b296_79, b296_84, b296_88, b296_89, b296_92, b296_95, b296_97, b296_115, b296_130, b296_142, b296_155, b296_159, b296_160, b296_169, qcall_l, qcall_r, qretn_l, qJ_s, qJ_n, qV0, qEx, ↓qif0, ↓zchk_pos, ↓reduceIte, qput, qWW, qmW, qkW, qnW, K_37 hKb, K_37 hKb2, irb, ibb, r2, c3, wo, if_neg c4, hd, Int.reduceEq]
      · refine refused _ ?_ ?_
        · simp (config := { maxSteps := 2000000 }) (disch := first | omega | (simp only [K_3 hK, qb_in, qkW, qmW, qnW, true_and, and_true, or_self, true_or, or_true, and_self]; done) | (simp only [K_3 hK, qb_in, qkW, qmW, qnW, true_and, and_true, or_self, true_or, or_true, and_self]; omega)) only [zD_144, b144_0, b144_5, b144_10, b144_13, b144_16, b144_27, b144_36, b144_40, b144_46, b144_49, b144_61, b144_72, b144_81, b144_89, qcall_l, qcall_r, qretn_l, qJ_s, qJ_n, qV0, qEx, ↓qif0, ↓zchk_pos, ↓reduceIte, qput, qWW, qmW, qkW, qnW, K_3 hK, ro, bo, su, if_pos (show 0 < u by omega)]
        · simp (config := { maxSteps := 2000000 }) (disch := first | omega | (simp only [K_37 hKb, K_37 hKb2, qb_in, qkW, qmW, qnW, true_and, and_true, or_self, true_or, or_true, and_self]; done) | (simp only [K_37 hKb, K_37 hKb2, qb_in, qkW, qmW, qnW, true_and, and_true, or_self, true_or, or_true, and_self]; omega)) only [zD_296, b296_0, b296_5, b296_8, b296_13, b296_16, b296_20, b296_21, b296_26, b296_32, b296_35, b296_41, b296_45, b296_51, b296_54, b296_63, b296_67, b296_68, b296_75, b296_79, b296_84, b296_88, b296_89, b296_92, b296_95, b296_97, b296_115, b296_130, b296_142, b296_155, b296_159, b296_160, b296_169, qcall_l, qcall_r, qretn_l, qJ_s, qJ_n, qV0, qEx, ↓qif0, ↓zchk_pos, ↓reduceIte, qput, qWW, qmW, qkW, qnW, K_37 hKb, K_37 hKb2, irb, ibb, r2, if_neg c3, hd, Int.reduceEq]
    · refine qUn_n5 hH ⟨2, ?_, ?_, by decide⟩
      · have bo := s_bookOf_n e S b (by omega) hK hY.1 c2
        simp (config := { maxSteps := 2000000 }) (disch := first | omega | (simp only [K_3 hK, kr, qb_in, qkW, qmW, qnW, true_and, and_true, or_self, true_or, or_true, and_self]; done) | (simp only [K_3 hK, kr, qb_in, qkW, qmW, qnW, true_and, and_true, or_self, true_or, or_true, and_self]; omega)) only [zD_144, b144_0, b144_5, b144_10, b144_13, b144_16, b144_27, b144_36, b144_40, b144_46, b144_49, b144_61, b144_72, b144_81, b144_89, qcall_l, qcall_r, qretn_l, qJ_s, qJ_n, qV0, qEx, ↓qif0, ↓zchk_pos, ↓reduceIte, qput, qWW, qmW, qkW, qnW, K_3 hK, ro, bo, kr]
      · have ib := r_isbook_n e S b (by omega) hK hY.1.2 c2
        have hd := r_refuse e S 1 (by omega) hK (by decide)
        simp (config := { maxSteps := 2000000 }) (disch := first | omega | (simp only [K_37 hKb, qb_in, qkW, qmW, qnW, true_and, and_true, or_self, true_or, or_true, and_self]; done) | (simp only [K_37 hKb, qb_in, qkW, qmW, qnW, true_and, and_true, or_self, true_or, or_true, and_self]; omega)) only [zD_296, b296_0, b296_5, b296_8, b296_13, b296_16, b296_20, b296_21, b296_26, b296_32, b296_35, b296_41, b296_45, b296_51, b296_54, b296_63, b296_67, b296_68, b296_75, b296_79, b296_84, b296_88, b296_89, b296_92, b296_95, b296_97, b296_115, b296_130, b296_142, b296_155, b296_159, b296_160, b296_169, qcall_l, qcall_r, qretn_l, qJ_s, qJ_n, qV0, qEx, ↓qif0, ↓zchk_pos, ↓reduceIte, qput, qWW, qmW, qkW, qnW, K_37 hKb, irb, ib, hd, Int.reduceEq]
        rfl
  · exact qUn_n5 hH (q_wish_n d S r b (by omega) hK p5.1 c1)
theorem q_felt5 (d : Nat) (S : zS) (k p l c : Int) (h : 15 ≤ d) (hH : qHC S) :
    qUn vi qid (qG5 S) S (zD d 138 [vr 3, vi k, vi p, vi l, vi c] S) (zD d 281 [vr 37, vi k, vi p, vi l, vi c]) qpsF := by
  obtain ⟨⟨⟨⟨hK, hP, hL, hn⟩, ⟨hT, hC, hR, hkk⟩, ⟨p1, p2, p3, p4, p5, p6⟩, hY⟩, hBB⟩, hYC, hFc⟩ := id hH
  by_cases c1 : 0 ≤ k ∧ k < zm S 37 65
  · obtain ⟨e, rfl, he⟩ := qd h
    obtain ⟨b, x, y, w, t, P, q⟩ := hYC.2.1 k c1.1 c1.2
    have q0 := q
    obtain ⟨⟨a1, a2, a3, a4, a5, a6⟩, ⟨b1, b2, b3, b4, b5, b6⟩, ⟨ky, ky1, ky2, y103, yn⟩, -⟩ := q
    have n65 := p4.1.2
    have k20 : k < 20 := by omega
    have bb4 : b < 4 := by have := hY.1.2; omega
    have co := s_copyOf_y e S k (by omega) hK hP p4.1 c1
    obtain ⟨-, -, -, y1, -⟩ := p4.2.1 k c1.1 c1.2
    rw [a3, a1, a2] at y1
    rw [a3] at co
    obtain ⟨⟨kx, kx1, kx2, x103, xn⟩, -, -, ⟨x3, wr⟩, ⟨x4, tr⟩, -⟩ := hY.2.1 b b1 b2
    rw [a2] at kx kx1 kx2 x103 xn x3 x4
    rw [a4] at x3 wr
    rw [a5] at x4 tr
    have cp := s_checkPlace e S x w t P p l c (by omega) kx x3 x4 a6
    by_cases c2 : (0 ≤ p ∧ p < P) ∧ (0 ≤ l ∧ l < t) ∧ (0 ≤ c ∧ c < w)
    · rw [if_pos c2] at cp
      have cc := s_copyCell e S k b x y w t P p l c (by omega) q0 kx x3 x4 y1 wr tr c2.1 c2.2.1 c2.2.2
      obtain ⟨v, hv⟩ : ∃ v, qfv S k x w t p l c = v := ⟨_, rfl⟩
      rw [hv] at cc
      refine Or.inl ⟨v, S, ?_, qKs_r S, ?_⟩
      · simp (config := { maxSteps := 2000000 }) (disch := first | omega | (simp only [K_3 hK, ky, qb_in, qkW, qmW, qnW, true_and, and_true, or_self, true_or, or_true, and_self]; done) | (simp only [K_3 hK, ky, qb_in, qkW, qmW, qnW, true_and, and_true, or_self, true_or, or_true, and_self]; omega)) only [zD_138, b138_0, b138_5, b138_19, b138_28, qcall_l, qcall_r, qretn_l, qJ_s, qJ_n, qV0, qEx, ↓qif0, ↓zchk_pos, ↓reduceIte, qput, qWW, qmW, qkW, qnW, K_3 hK, co, ky, y1, cp, cc]
      · obtain ⟨M, hM⟩ : ∃ M, qu (zm S) 102 0 (qid v) = M := ⟨_, rfl⟩
        have hq1 : qo S (qid v) = qW S M := by rw [← hM]; rfl
        rw [hq1]
        have Mo : ∀ z, z ≠ 102 → M z = zm S z := fun z hz => by rw [← hM, qu_o _ _ _ _ _ hz]
        have H1 : qHB1 (qW S M) := by
          rw [← hM]
          exact qHB1_f (qHB1_0 hH.1) (qFq_o (qFq_r S) _)
        have M37 : M 37 = zm S 37 := Mo 37 (by decide)
        have ic := r_iscopy_y e (qW S M) k (by omega) hK (by show 0 ≤ M 37 65 ∧ M 37 65 ≤ 20; rw [M37]; exact n65) (by show 0 ≤ k ∧ k < M 37 65; rw [M37]; exact c1)
        have p66 : M 37 66 = 82 := by rw [M37]; exact P_37_66 hP
        have v82 : M 82 k = b := by rw [Mo 82 (by decide), a1]
        obtain ⟨m2, r2, f2, H2, l2⟩ := r_isPlace e (qW S M) b p l c (by omega) H1 (by show 0 ≤ b ∧ b < M 37 16; rw [M37]; exact ⟨b1, b2⟩)
        rw [show zm (qW S M) 8 b = x by show M 8 b = x; rw [Mo 8 (by decide), a2], show zm (qW S M) x 9 = P by show M x 9 = P; rw [Mo x (by omega), a6], show zm (qW S M) 52 b = t by show M 52 b = t; rw [Mo 52 (by decide), a5], show zm (qW S M) 51 b = w by show M 51 b = w; rw [Mo 51 (by decide), a4], qb_p c2] at r2
        have hd := r_hold0 e S m2 (by omega) hK
        have H3 : qHB1 (qW S (qu m2 37 0 0)) := qHB_0 (S := S) H2 0
        obtain ⟨m3, hm3⟩ : ∃ m3, qu m2 37 0 0 = m3 := ⟨_, rfl⟩
        rw [hm3] at hd H3
        have f2 : qFly M m2 := f2
        have ag3 : ∀ z i, ¬ (qfly z i ∨ z = 102 ∨ (z = 37 ∧ i = 0)) → m3 z i = zm S z i := fun z i hz => by
          have e1 : m3 z i = m2 z i := by
            rw [← hm3]
            by_cases q : z = 37
            · subst q
              exact qu_i _ _ _ _ _ (by omega)
            · rw [qu_o _ _ _ _ _ q]
          rw [e1, f2 z i (fun q => hz (Or.inl q)), Mo z (by omega)]
        obtain ⟨m4, r4, ag4, e75, F4, H4, l50⟩ := r_feelsH e S m3 k b x y w t P (by omega) hH H3 c1 q0 ag3
        have ag : ∀ z i, ¬ (qfly z i ∨ z = 102 ∨ (z = 37 ∧ i = 0) ∨ z = 89 ∨ (z = 37 ∧ i = 75)) → m4 z i = zm S z i := fun z i hz => by
          rw [ag4 z i (by intro q; rcases q with q | q; exact hz (Or.inl q); omega), ag3 z i (by intro q; rcases q with q | q; exact hz (Or.inl q); omega)]
        have pt0 : 0 ≤ p * t := Int.mul_nonneg c2.1.1 (by omega)
        have pt1 : p * t + t ≤ P * t := qixm (by omega) c2.1.2
        have Pt : P * t ≤ 363 := by
          obtain ⟨J, fL, fE, fA, fU, fM, P', ll, w0, -⟩ := hBB b b1 b2
          obtain ⟨Pr, x9, -⟩ := qB0_P w0 (by rw [a4]; exact wr.1) (by rw [a5]; exact tr)
          rw [a2, a6] at x9
          rw [a5] at Pr
          obtain ⟨-, -, q3, -⟩ := qmp_r tr
          have : P * t ≤ qmp t * t := Int.mul_le_mul_of_nonneg_right (by omega) (by omega)
          omega
        have fa := r_feltAt e (qW S m4) k b t p l c (by omega) hK H4.1.1.2.1 ⟨c1.1, k20⟩ (by show m4 82 k = b; rw [ag 82 k (by unfold qfly; omega), a1]) ⟨b1, bb4⟩ (by show m4 52 b = t; rw [ag 52 b (by unfold qfly; omega), a5]) tr ⟨c2.1.1, by omega⟩ c2.2.1 ⟨c2.2.2.1, by omega⟩ (by omega)
        rw [show (if zm (qW S m4) 85 (160 * k + p) = 0 then zm (qW S m4) 89 (40 * (p * t + l) + c) else 0) = v by
          rw [← hv]
          unfold qfv
          show (if m4 85 (160 * k + p) = 0 then m4 89 (40 * (p * t + l) + c) else 0) = _
          rw [ag 85 _ (by unfold qfly; omega), F4 p l c c2.1.1 c2.1.2 c2.2.1.1 c2.2.1.2 c2.2.2.1 c2.2.2.2]] at fa
        have hf : qFx S m4 := fun z i hz => ag z i fun q => hz (by
          unfold qsx qscr
          rcases q with q | q | q | q | q
          · unfold qfly at q
            unfold qscf qsxf
            omega
          · exact Or.inl (Or.inl (by unfold qscf; omega))
          · exact Or.inl (Or.inl (by unfold qscf; omega))
          · exact Or.inr (by unfold qsxf; omega)
          · exact Or.inr (by unfold qsxf; omega))
        have HC : qHC (qW S m4) := qHC_ft hH hf H4 q0 c1 e75 F4
        refine ⟨qW S m4, ?_, qKs_w S _ ?_, ?_, ?_, q5_f hH hf HC (q50_l l50.1 ⟨b1, b2⟩)⟩
        · simp (config := { maxSteps := 2000000 }) (disch := first | omega | (simp only [K_37 hK, K_82 hK, p66, c1.1, k20, qb_in, qkW, qmW, qnW, true_and, and_true, or_self, true_or, or_true, and_self]; done) | (simp only [K_37 hK, K_82 hK, p66, c1.1, k20, qb_in, qkW, qmW, qnW, true_and, and_true, or_self, true_or, or_true, and_self]; omega)) only [zD_281, b281_0, b281_5, b281_8, b281_22, b281_25, b281_29, b281_30, b281_38, b281_42, b281_43, b281_46, b281_49, b281_51, b281_56, b281_65, qcall_l, qcall_r, qretn_l, qJ_s, qJ_n, qV0, qEx, ↓qif0, ↓zchk_pos, ↓reduceIte, qput, qWW, qmW, qkW, qnW, K_37 hK, K_82 hK, ic, p66, v82, r2, hd, r4, fa, Int.reduceEq]
        · exact funext fun i => ag 1 i (by unfold qfly; omega)
        · show m4 37 0 = 0
          rw [ag4 37 0 (by unfold qfly; omega), ← hm3, qu_s]
        · show m4 102 0 = _
          rw [ag4 102 0 (by unfold qfly; omega), ← hm3, qu_o _ _ _ _ _ (by decide), f2 102 0 (by unfold qfly; omega), ← hM, qu_s]
    · rw [if_neg c2] at cp
      obtain ⟨m2, r2, f2, H2, l50⟩ := r_isPlace e (zbump S) b p l c (by omega) (qHB1_0 hH.1) ⟨b1, b2⟩
      rw [show zm (zbump S) 8 b = x from a2, show zm (zbump S) x 9 = P from a6, show zm (zbump S) 52 b = t from a5, show zm (zbump S) 51 b = w from a4, qb_n c2] at r2
      have hKb : qK (zbump S) := hK
      have ic := r_iscopy_y e (zbump S) k (by omega) hK n65 c1
      have p66 : zm (zbump S) 37 66 = 82 := P_37_66 hP
      have v82 : zm (zbump S) 82 k = b := a1
      have hd : zD e 182 [vr 37, vi 1] (zbump (qW S m2)) = some (.inl (some (vi 0)), zbump (qW S (qu m2 37 0 1))) := r_holdn e (zbump S) m2 1 (by omega) hK (by decide)
      have r2 : zD e 272 [vr 37, vi b, vi p, vi l, vi c] (zbump S) = some (.inl (some (vi 0)), zbump (qW S m2)) := r2
      have hKb2 : qK (zbump (qW S m2)) := hK
      refine qUn_x5 hH 2 ?_ (by decide) ⟨qu m2 37 0 1, ?_, qF0_t (qF0_l f2) (qF0_u m2 1), qu_s _ _ _ _, qHB_0 (S := S) H2 1, q50_l (b := b) (by rw [qu_i _ _ _ _ _ (by decide)]; exact l50.1) ⟨b1, b2⟩⟩
      · simp (config := { maxSteps := 2000000 }) (disch := first | omega | (simp only [K_3 hK, ky, qb_in, qkW, qmW, qnW, true_and, and_true, or_self, true_or, or_true, and_self]; done) | (simp only [K_3 hK, ky, qb_in, qkW, qmW, qnW, true_and, and_true, or_self, true_or, or_true, and_self]; omega)) only [zD_138, b138_0, b138_5, b138_19, b138_28, qcall_l, qcall_r, qretn_l, qJ_s, qJ_n, qV0, qEx, ↓qif0, ↓zchk_pos, ↓reduceIte, qput, qWW, qmW, qkW, qnW, K_3 hK, co, ky, y1, cp]
      · simp (config := { maxSteps := 2000000 }) (disch := first | omega | (simp only [K_37 hKb, K_37 hKb2, K_82 hKb, p66, c1.1, k20, qb_in, qkW, qmW, qnW, true_and, and_true, or_self, true_or, or_true, and_self]; done) | (simp only [K_37 hKb, K_37 hKb2, K_82 hKb, p66, c1.1, k20, qb_in, qkW, qmW, qnW, true_and, and_true, or_self, true_or, or_true, and_self]; omega)) only [zD_281, b281_0, b281_5, b281_8, b281_22, b281_25, b281_29, b281_30, b281_38, b281_42, b281_43, b281_46, b281_49, b281_51, b281_56, b281_65, qcall_l, qcall_r, qretn_l, qJ_s, qJ_n, qV0, qEx, ↓qif0, ↓zchk_pos, ↓reduceIte, qput, qWW, qmW, qkW, qnW, K_37 hKb, K_37 hKb2, K_82 hKb, ic, p66, v82, r2, hd, Int.reduceEq]
  · exact qUn_n5 hH (q_felt_n d S k p l c (by omega) hK p4.1 c1)
theorem r_emboss5 (e : Nat) (S : zS) (M : Int → Int → Int) (c k b x w t P : Int) (n : Nat) (f cp : Int → Int) (he : 12 ≤ e) (hH : qHB1 (qW S M)) (hb : 0 ≤ b) (hc : 0 ≤ c ∧ c < 3) (hk : 0 ≤ k ∧ k < 20) (h16 : b < M 37 16) (h65 : M 37 65 = k) (h8 : M 8 b = x) (h51 : M 51 b = w) (h52 : M 52 b = t) (h53 : 0 ≤ M 53 b ∧ M 53 b ≤ 1) (h54 : 0 < M 54 b) (h9 : M x 9 = P) (hf : M (x + 2) = f) (hx : 103 ≤ x) (hn : P * (t * w) = (n : Int)) (hn2 : n ≤ 14520) (hP : 0 ≤ P ∧ P ≤ 121) (hcp : ∀ q, 0 ≤ q → q < 6 → M 81 (6 * c + q) = cp q ∧ 0 ≤ cp q ∧ cp q ≤ 100000) (h73 : 0 ≤ M 37 73 ∧ M 37 73 ≤ 100000) :
    ∃ m', zD (e + 1) 276 [vr 37, vi c, vi b] (qW S M) = some (.inl (some (vi k)), qW S m') ∧ qHB1 (qW S m') ∧ (∀ z i, ¬ (qfly z i ∨ (81 ≤ z ∧ z ≤ 84) ∨ z = 86 ∨ z = 87 ∨ (z = 37 ∧ (i = 0 ∨ i = 65 ∨ i = 73))) → m' z i = M z i) ∧ (m' 37 0 = 0 ∧ m' 37 65 = k + 1 ∧ m' 37 73 = M 37 73 + qsh M b) ∧
      (∀ q, 0 ≤ q → q < 6 → m' 81 (6 * c + q) = cp q - qmn (cp q) (qsb f q n)) ∧ (∀ i, i < 6 * c ∨ 6 * c + 6 ≤ i → m' 81 i = M 81 i) ∧ (∀ i, m' 82 i = if i = k then b else M 82 i) ∧ (∀ q, 0 ≤ q → q < 6 → m' 83 (6 * k + q) = qmn (cp q) (qsb f q n)) ∧ (∀ i, i < 6 * k → m' 83 i = M 83 i) ∧ (∀ i, m' 84 i = if i = k then qps (fun q => qgm f cp q n) 6 else M 84 i) ∧ (∀ i, m' 86 i = if i = k then -1 else M 86 i) ∧ (∀ i, m' 87 i = if i = k then -1 else M 87 i) ∧ m' 37 50 = b := by
  have hK : qK S := hH.1.1.1
  have hPM := hH.1.1.2.1
  have b4 : b < 4 := by have := hH.1.2.2.1.2; have h2 : zm (qW S M) 37 16 = M 37 16 := rfl; omega
  have ie := r_isEmbosser e (qW S M) c (by omega)
  rw [qb_p (show 0 ≤ c ∧ c ≤ 2 by omega)] at ie
  have ib := r_isbook_y e (qW S M) b (by omega) hK hH.1.2.2.1.2 ⟨hb, h16⟩
  have p22 : M 37 22 = 54 := P_37_22 hPM
  have hd := r_hold0 e S M (by omega) hK
  obtain ⟨m1, hm1⟩ : ∃ m, qu M 37 0 0 = m := ⟨_, rfl⟩
  rw [hm1] at hd
  have i1 : ∀ j, j ≠ 0 → m1 37 j = M 37 j := fun j hj => by rw [← hm1, qu_i _ _ _ _ _ hj]
  have o1 : ∀ z, z ≠ 37 → m1 z = M z := fun z hz => by rw [← hm1, qu_o _ _ _ _ _ hz]
  have q65 : m1 37 65 = k := by rw [i1 65 (by decide), h65]
  have q66 : m1 37 66 = 82 := by rw [i1 66 (by decide)]; exact P_37_66 hPM
  obtain ⟨m2, hm2⟩ : ∃ m, qu m1 82 k b = m := ⟨_, rfl⟩
  have o2 : ∀ z, z ≠ 82 → m2 z = m1 z := fun z hz => by rw [← hm2, qu_o _ _ _ _ _ hz]
  have s65 : m2 37 65 = k := by rw [o2 37 (by decide), q65]
  have s68 : m2 37 68 = 84 := by rw [o2 37 (by decide), i1 68 (by decide)]; exact P_37_68 hPM
  obtain ⟨m3, hm3⟩ : ∃ m, qu m2 84 k 0 = m := ⟨_, rfl⟩
  have o3 : ∀ z, z ≠ 84 → m3 z = m2 z := fun z hz => by rw [← hm3, qu_o _ _ _ _ _ hz]
  have O3 : ∀ z, z ≠ 37 → z ≠ 82 → z ≠ 84 → m3 z = M z := fun z z1 z2 z3 => by rw [o3 z z3, o2 z z2, o1 z z1]
  have I3 : ∀ j, j ≠ 0 → m3 37 j = M 37 j := fun j hj => by rw [o3 37 (by decide), o2 37 (by decide), i1 j hj]
  have H3 : qHB1 (qW S m3) := qHB1_p hH fun z i h1 h2 => by
    by_cases q : z = 37
    · subst q; exact I3 i fun q => h2 ⟨rfl, Or.inl q⟩
    · rw [O3 z q (fun q => h1 ⟨by rw [q]; decide, by rw [q]; decide⟩) (fun q => h1 ⟨by rw [q]; decide, by rw [q]; decide⟩)]
  obtain ⟨m4, r4, H4, g0, g1, g1', g3, g3', g4, g4'⟩ := r_embLoop e S m3 c k b x w t P n f cp he hb hc hk (by rw [I3 16 (by decide)]; exact h16) (by rw [I3 65 (by decide)]; exact h65) (by rw [O3 8 (by decide) (by decide) (by decide)]; exact h8) (by rw [O3 51 (by decide) (by decide) (by decide)]; exact h51) (by rw [O3 52 (by decide) (by decide) (by decide)]; exact h52) (by rw [O3 x (by omega) (by omega) (by omega)]; exact h9) (by rw [O3 (x + 2) (by omega) (by omega) (by omega)]; exact hf) hx hn hn2 (fun q q1 q2 => (hcp q q1 q2).2) 6 0 m3 vu vu vu (by omega) H3
    ⟨fun _ _ _ => rfl, fun q q1 q2 => by rw [O3 81 (by decide) (by decide) (by decide), if_neg (show ¬ q < ((0 : Nat) : Int) by omega)]; exact (hcp q q1 q2).1, fun _ _ => rfl, fun q q1 q2 => by omega, fun _ _ => rfl, by rw [← hm3, qu_s]; rfl, fun _ _ => rfl⟩
  have r4 : zF_276 e 84 [vr 37, vi c, vi b, vu, vi 0, vu, vu, vu] [] (qW S m3) = zF_276 e 187 [vr 37, vi c, vi b, vu, vi 6, vu, vu, vu] [] (qW S m4) := r4
  have hP4 : qP m4 := H4.1.1.2.1
  have e4 : ∀ i, ¬ qfly 37 i → m4 37 i = m3 37 i := fun i hi => g0 37 i (by intro q; rcases q with q | q; exact hi q; omega)
  have t65 : m4 37 65 = k := by rw [e4 65 (by unfold qfly; omega), I3 65 (by decide), h65]
  have t70 : m4 37 70 = 86 := P_37_70 hP4
  obtain ⟨m5, hm5⟩ : ∃ m, qu m4 86 k (-1) = m := ⟨_, rfl⟩
  have o5 : ∀ z, z ≠ 86 → m5 z = m4 z := fun z hz => by rw [← hm5, qu_o _ _ _ _ _ hz]
  have u65 : m5 37 65 = k := by rw [o5 37 (by decide), t65]
  have u71 : m5 37 71 = 87 := by rw [o5 37 (by decide)]; exact P_37_71 hP4
  obtain ⟨m6, hm6⟩ : ∃ m, qu m5 87 k (-1) = m := ⟨_, rfl⟩
  have o6 : ∀ z, z ≠ 87 → m6 z = m5 z := fun z hz => by rw [← hm6, qu_o _ _ _ _ _ hz]
  have O6 : ∀ z, z ≠ 86 → z ≠ 87 → m6 z = m4 z := fun z z1 z2 => by rw [o6 z z2, o5 z z1]
  have H6 : qHB1 (qW S m6) := qHB1_p H4 fun z i h1 h2 => by rw [O6 z (fun q => h1 ⟨by rw [q]; decide, by rw [q]; decide⟩) (fun q => h1 ⟨by rw [q]; decide, by rw [q]; decide⟩)]
  have back : ∀ z i, ¬ (qfly z i ∨ (81 ≤ z ∧ z ≤ 84) ∨ z = 86 ∨ z = 87 ∨ (z = 37 ∧ i = 0)) → m6 z i = M z i := fun z i hz => by
    rw [O6 z (by omega) (by omega), g0 z i (by intro q; rcases q with q | q; exact hz (Or.inl q); omega)]
    by_cases q : z = 37
    · subst q; exact I3 i (by omega)
    · rw [O3 z q (by omega) (by omega)]
  obtain ⟨m7, r7, f7, H7, l50⟩ := r_pagesOf e (qW S m6) b (by omega) H6 (by show 0 ≤ b ∧ b < m6 37 16; rw [back 37 16 (by unfold qfly; omega)]; exact ⟨hb, h16⟩)
  rw [show zm (qW S m6) 8 b = x by show m6 8 b = x; rw [back 8 b (by unfold qfly; omega), h8], show zm (qW S m6) x 9 = P by show m6 x 9 = P; rw [back x 9 (by unfold qfly; omega), h9]] at r7
  have o7 : ∀ z i, ¬ qfly z i → m7 z i = m6 z i := f7
  have hP7 : qP m7 := H7.1.1.2.1
  have w21 : m7 37 21 = 53 := P_37_21 hP7
  have w53 : m7 53 b = M 53 b := by rw [o7 53 b (by unfold qfly; omega), back 53 b (by unfold qfly; omega)]
  have w73 : m7 37 73 = M 37 73 := by rw [o7 37 73 (by unfold qfly; omega), back 37 73 (by unfold qfly; omega)]
  have w65 : m7 37 65 = k := by rw [o7 37 65 (by unfold qfly; omega), back 37 65 (by unfold qfly; omega), h65]
  have sh : qsh M b = if M 53 b = 0 then P else (P + 1) / 2 := by unfold qsh; rw [h8, h9]
  obtain ⟨sv, hsv⟩ : ∃ sv, qsh M b = sv := ⟨_, rfl⟩
  have sr : 0 ≤ sv ∧ sv ≤ 121 := by rw [← hsv, sh]; split <;> omega
  have z1 : z32 (M 37 73 + sv) = M 37 73 + sv := q32 (by omega)
  obtain ⟨m8, hm8⟩ : ∃ m, qu m7 37 73 (M 37 73 + sv) = m := ⟨_, rfl⟩
  have y65 : m8 37 65 = k := by rw [← hm8, qu_i _ _ _ _ _ (by decide), w65]
  have z2 : z32 (k + 1) = k + 1 := q32 (by omega)
  have z3 : z32 (k + 1 - 1) = k := by rw [q32 (by omega)]; omega
  obtain ⟨m9, hm9⟩ : ∃ m, qu m8 37 65 (k + 1) = m := ⟨_, rfl⟩
  have y9 : m9 37 65 = k + 1 := by rw [← hm9, qu_s]
  have o9 : ∀ z, z ≠ 37 → m9 z = m7 z := fun z hz => by rw [← hm9, qu_o _ _ _ _ _ hz, ← hm8, qu_o _ _ _ _ _ hz]
  have i9 : ∀ i, i ≠ 65 → i ≠ 73 → m9 37 i = m7 37 i := fun i h1 h2 => by rw [← hm9, qu_i _ _ _ _ _ h1, ← hm8, qu_i _ _ _ _ _ h2]
  have L9 : ∀ z i, 81 ≤ z → z ≤ 84 → m9 z i = m4 z i := fun z i z1 z2 => by rw [o9 z (by omega), o7 z i (by unfold qfly; omega), O6 z (by omega) (by omega)]
  refine ⟨m9, ?_, ?_, fun z i hz => ?_, ⟨?_, y9, ?_⟩, fun q q1 q2 => ?_, fun i hi => ?_, fun i => ?_, fun q q1 q2 => ?_, fun i hi => ?_, fun i => ?_, fun i => ?_, fun i => ?_, (i9 50 (by decide) (by decide)).trans l50.1⟩
  · have nz : ¬ M 54 b = 0 := by omega
    have k20 : ¬ k = 20 := by omega
    clear g0 g1 g1' g3 g3' g4 g4' back hcp o1 o2 o3 O3 I3 e4 o5 o6 O6 o7 o9 i9 L9 i1 f7
    have tl : zF_276 e 187 [vr 37, vi c, vi b, vu, vi 6, vu, vu, vu] [] (qW S m4) = some (.inl (some (vi k)), qW S m9) := by
      rw [b276_187]
      by_cases c5 : M 53 b = 0
      · rw [if_pos c5] at sh
        have sh : P = sv := by rw [← hsv, sh]
        rw [← sh] at z1 hm8
        simp (config := { maxSteps := 2000000 }) (disch := first | omega | (simp only [K_37 hK, K_86 hK, K_87 hK, K_53 hK, t65, t70, u65, u71, w21, hk.1, hk.2, qb_in, qkW, qmW, qnW, true_and, and_true, or_self, true_or, or_true, and_self]; done) | (simp only [K_37 hK, K_86 hK, K_87 hK, K_53 hK, t65, t70, u65, u71, w21, hk.1, hk.2, qb_in, qkW, qmW, qnW, true_and, and_true, or_self, true_or, or_true, and_self]; omega)) only [b276_0, b276_4, b276_7, b276_12, b276_15, b276_19, b276_20, b276_26, b276_30, b276_39, b276_48, b276_52, b276_53, b276_56, b276_59, b276_61, b276_79, b276_91, b276_98, b276_114, b276_121, b276_126, b276_128, b276_146, b276_160, b276_176, b276_187, b276_205, b276_212, b276_228, b276_237, b276_239, b276_257, qcall_l, qcall_r, qretn_l, qJ_s, qJ_n, qV0, qEx, ↓qif0, ↓zchk_pos, ↓reduceIte, qput, qWW, qmW, qkW, qnW, K_37 hK, K_86 hK, K_87 hK, K_53 hK, t65, t70, hm5, u65, u71, hm6, r7, w21, w53, if_pos c5, w73, z1, hm8, y65, z2, hm9, y9, z3]
      · rw [if_neg c5] at sh
        have y1 : z32 (P + 1) = P + 1 := q32 (by omega)
        have y2 : Int.tdiv (P + 1) 2 = (P + 1) / 2 := Int.tdiv_eq_ediv_of_nonneg (by omega)
        have y3 : z32 ((P + 1) / 2) = sv := by rw [← hsv, sh]; exact q32 (by omega)
        simp (config := { maxSteps := 2000000 }) (disch := first | omega | (simp only [K_37 hK, K_86 hK, K_87 hK, K_53 hK, t65, t70, u65, u71, w21, hk.1, hk.2, qb_in, qkW, qmW, qnW, true_and, and_true, or_self, true_or, or_true, and_self]; done) | (simp only [K_37 hK, K_86 hK, K_87 hK, K_53 hK, t65, t70, u65, u71, w21, hk.1, hk.2, qb_in, qkW, qmW, qnW, true_and, and_true, or_self, true_or, or_true, and_self]; omega)) only [b276_0, b276_4, b276_7, b276_12, b276_15, b276_19, b276_20, b276_26, b276_30, b276_39, b276_48, b276_52, b276_53, b276_56, b276_59, b276_61, b276_79, b276_91, b276_98, b276_114, b276_121, b276_126, b276_128, b276_146, b276_160, b276_176, b276_187, b276_205, b276_212, b276_228, b276_237, b276_239, b276_257, qcall_l, qcall_r, qretn_l, qJ_s, qJ_n, qV0, qEx, ↓qif0, ↓zchk_pos, ↓reduceIte, qput, qWW, qmW, qkW, qnW, K_37 hK, K_86 hK, K_87 hK, K_53 hK, t65, t70, hm5, u65, u71, hm6, r7, w21, w53, if_neg c5, w73, y1, y2, y3, z1, hm8, y65, z2, hm9, y9, z3, Int.reduceNe]
    simp (config := { maxSteps := 2000000 }) (disch := first | omega | (simp only [K_37 hK, K_54 hK, K_82 hK, K_84 hK, p22, q65, q66, s65, s68, hk.1, hk.2, qb_in, qkW, qmW, qnW, true_and, and_true, or_self, true_or, or_true, and_self]; done) | (simp only [K_37 hK, K_54 hK, K_82 hK, K_84 hK, p22, q65, q66, s65, s68, hk.1, hk.2, qb_in, qkW, qmW, qnW, true_and, and_true, or_self, true_or, or_true, and_self]; omega)) only [zD_276, b276_0, b276_4, b276_7, b276_12, b276_15, b276_19, b276_20, b276_26, b276_30, b276_39, b276_48, b276_52, b276_53, b276_56, b276_59, b276_61, b276_79, b276_91, b276_98, b276_114, b276_121, b276_126, b276_128, b276_146, b276_160, b276_176, b276_205, b276_212, b276_228, b276_237, b276_239, b276_257, qcall_l, qcall_r, qretn_l, qJ_s, qJ_n, qV0, qEx, ↓qif0, ↓zchk_pos, ↓reduceIte, qput, qWW, qmW, qkW, qnW, K_37 hK, K_54 hK, K_82 hK, K_84 hK, ie, ib, p22, if_neg nz, h65, if_neg k20, hd, q65, q66, hm2, s65, s68, hm3, r4, tl, Int.reduceEq]
  · refine qHB1_p H7 fun z i h1 h2 => ?_
    by_cases q : z = 37
    · subst q; exact i9 i (fun q => h2 ⟨rfl, Or.inr (Or.inr (Or.inl q))⟩) (fun q => h2 ⟨rfl, Or.inr (Or.inr (Or.inr (Or.inl q)))⟩)
    · rw [o9 z q]
  · by_cases q : z = 37
    · subst q
      rw [i9 i (by omega) (by omega), o7 37 i (fun q => hz (Or.inl q)), back 37 i (by intro q; rcases q with q | q; exact hz (Or.inl q); omega)]
    · rw [o9 z q, o7 z i (fun q => hz (Or.inl q)), back z i (by intro q; rcases q with q | q; exact hz (Or.inl q); omega)]
  · rw [i9 0 (by decide) (by decide), o7 37 0 (by unfold qfly; omega), O6 37 (by decide) (by decide), e4 0 (by unfold qfly; omega), o3 37 (by decide), o2 37 (by decide), ← hm1, qu_s]
  · rw [← hm9, qu_i _ _ _ _ _ (by decide), ← hm8, qu_s, hsv]
  · rw [L9 81 _ (by decide) (by decide), g1 q q1 q2, if_pos (by omega)]
  · rw [L9 81 _ (by decide) (by decide), g1' i hi, O3 81 (by decide) (by decide) (by decide)]
  · rw [L9 82 _ (by decide) (by decide), g0 82 i (by unfold qfly; omega), o3 82 (by decide), ← hm2, qu_row, o1 82 (by decide)]
  · rw [L9 83 _ (by decide) (by decide), g3 q q1 (by omega)]
  · rw [L9 83 _ (by decide) (by decide), g3' i hi, O3 83 (by decide) (by decide) (by decide)]
  · rw [L9 84 _ (by decide) (by decide)]
    by_cases q : i = k
    · rw [if_pos q, q, g4]
    · rw [if_neg q, g4' i q, ← hm3, qu_i _ _ _ _ _ q, o2 84 (by decide), o1 84 (by decide)]
  · rw [o9 86 (by decide), o7 86 i (by unfold qfly; omega), o6 86 (by decide), ← hm5, qu_row, show m4 86 = M 86 from funext fun i => by rw [g0 86 i (by unfold qfly; omega), O3 86 (by decide) (by decide) (by decide)]]
  · rw [o9 87 (by decide), o7 87 i (by unfold qfly; omega), ← hm6, qu_row, o5 87 (by decide), show m4 87 = M 87 from funext fun i => by rw [g0 87 i (by unfold qfly; omega), O3 87 (by decide) (by decide) (by decide)]]
theorem q_emboss_y5 (e : Nat) (S : zS) (k c b x w t P : Int) (he : 13 ≤ e) (hH : qHC S) (hk : zm S 37 65 = k) (hk20 : k < 20) (hb : 0 ≤ b ∧ b < zm S 37 16) (hx : zm S 8 b = x) (hc : 0 ≤ c ∧ c < 3) (hw : zm S 51 b = w) (ht : zm S 52 b = t) (hP : zm S x 9 = P) (h54 : 0 < zm S 54 b) :
    qUn vi qid (qG5 S) S (zD (e + 1) 137 [vr 3, vi c, vi b] S) (zD (e + 1) 276 [vr 37, vi c, vi b]) qpsE := by
  obtain ⟨⟨⟨⟨hK, hPp, hL, hn1⟩, -, ⟨p1, p2, p3, p4, p5, p6⟩, hY⟩, hBB⟩, hYC, hFc⟩ := id hH
  have k0 : 0 ≤ k := by rw [← hk]; exact p4.1.2.1
  have he12 : 12 ≤ e := by omega
  obtain ⟨⟨kx, kx1, kx2, x103, xn⟩, -, -, ⟨x3, wr⟩, ⟨x4, tr⟩, ⟨-, h53⟩, -, -, x8, -⟩ := hY.2.1 b hb.1 hb.2
  rw [hx] at kx kx1 kx2 x103 xn x3 x4 x8
  rw [hw] at x3 wr kx2
  rw [ht] at x4 tr kx2
  have Pr : 0 ≤ P ∧ P ≤ qmp t ∧ P ≤ 121 := by
    obtain ⟨J, fL, fE, fA, fU, fM, P', ll, w0, -⟩ := hBB b hb.1 hb.2
    obtain ⟨Pr, x9, -⟩ := qB0_P w0 (by rw [hw]; exact wr.1) (by rw [ht]; exact tr)
    rw [hx, hP] at x9
    rw [ht] at Pr
    rw [x9]
    exact Pr
  have cc := (s_countCl 1 S x w t P (by omega) kx kx2 x3 x4 x8 hP wr tr ⟨Pr.1, Pr.2.1⟩).2
  obtain ⟨n, hn⟩ : ∃ n : Nat, P * (t * w) = (n : Int) := ⟨(P * (t * w)).toNat, by omega⟩
  obtain ⟨f, hf⟩ : ∃ f, zm S (x + 2) = f := ⟨_, rfl⟩
  obtain ⟨cp, hcp⟩ : ∃ cp : Int → Int, (fun q => zm S 81 (6 * c + q)) = cp := ⟨_, rfl⟩
  have hcp : ∀ q, 0 ≤ q → q < 6 → zm S 81 (6 * c + q) = cp q := fun q _ _ => by rw [← hcp]
  have cpr : ∀ q, 0 ≤ q → q < 6 → 0 ≤ cp q ∧ cp q ≤ 100000 := fun q q1 q2 => by rw [← hcp q q1 q2]; exact (p1 c q hc.1 hc.2 q1 q2).2
  obtain ⟨T, C, rC, ⟨nT, zT, wT⟩, kT, Co, ⟨C3, C39⟩, C13, C10, ⟨Cx, Cx13⟩, CN, CF, CH, -, -, n14⟩ := s_emboss e S k c b x w t P n f cp (by omega) hH hk hk20 hb hx hc hw ht hP h54 hn hf hcp
  have xn2 : x + 2 < zn S := by omega
  have C1 : C 1 = zm S 1 := Co 1 (by omega) (by decide) (by decide) (by omega) (by omega)
  have kT' := q_em_k kT hn1
  clear cc
  refine Or.inl ⟨k, qW T C, rC, ⟨by show C 1 = _; exact C1, fun z hz => by rw [qkW]; exact kT' z hz⟩, ?_⟩
  obtain ⟨M, hM⟩ : ∃ M, qu C 102 0 (qid k) = M := ⟨_, rfl⟩
  have hq1 : qo (qW T C) (qid k) = qW T M := by rw [← hM]; rfl
  have Mo : ∀ z, z ≠ 102 → M z = C z := fun z hz => by rw [← hM, qu_o _ _ _ _ _ hz]
  have MS : ∀ z : Int, z < zn S → z ≠ 102 → z ≠ 3 → z ≠ 13 → z ≠ 10 + c → z ≠ x → M z = zm S z := fun z h0 h1 h2 h3 h4 h5 => by rw [Mo z h1, Co z h0 h2 h3 h4 h5]
  have M3 : ∀ j, j ≠ 9 → M 3 j = zm S 3 j := fun j hj => by rw [Mo 3 (by decide), C3 j hj]
  have x102 : x ≠ 102 := by omega
  have Mx : ∀ j, j ≠ 13 → M x j = zm S x j := fun j hj => by rw [Mo x x102, Cx j hj]
  have H1 : qHB1 (qW T M) := q_em_1 hH hc kx x103 nT kT MS M3 Mx
  obtain ⟨Ml, M8, M1, Mx2⟩ := q_em_0 hn1 hc x103 xn2 MS
  have M37 : M 37 = zm S 37 := Ml 37 (by decide) (by decide)
  have l73 : 0 ≤ zm S 37 73 ∧ zm S 37 73 ≤ 100000 := q_em_7 hH
  obtain ⟨mF, rF, HF, b1, ⟨f0, f65, f73⟩, f81, f81', f82, f83, f83', f84, f86, f87, l50⟩ := r_emboss5 e T M c k b x w t P n f cp he12 H1 hb.1 hc ⟨k0, hk20⟩ (by rw [M37]; exact hb.2) (by rw [M37]; exact hk) (by rw [M8]; exact hx) (by rw [Ml 51 (by decide) (by decide)]; exact hw) (by rw [Ml 52 (by decide) (by decide)]; exact ht) (by rw [Ml 53 (by decide) (by decide)]; exact h53) (by rw [Ml 54 (by decide) (by decide)]; exact h54) (by rw [Mx 9 (by decide)]; exact hP) (by rw [Mx2]; exact hf) x103 hn n14 ⟨Pr.1, Pr.2.2⟩ (fun q q1 q2 => ⟨by rw [Ml 81 (by decide) (by decide)]; exact hcp q q1 q2, cpr q q1 q2⟩) (by rw [M37]; exact l73)
  have shM : qsh M b = qsh (zm S) b := by
    unfold qsh
    rw [Ml 53 (by decide) (by decide), M8, hx, Mx 9 (by decide)]
  have zS2 : (zn S : Int) ≠ 102 ∧ (zn S : Int) + 1 ≠ 102 ∧ (zn S : Int) + 2 ≠ 102 ∧ 10 + c ≠ 102 := by omega
  have H6 : qHC (qW T mF) := q_em_2 hH hk hk20 hb hx hc hw ht hP h54 hn hf hcp x103 ⟨nT, zT, wT⟩ kT MS Ml M3 (by rw [Mo 3 (by decide), C39]) (fun i => by rw [Mo 13 (by decide), C13]) (fun q q1 q2 => by rw [Mo (10 + c) zS2.2.2.2, C10 q q1 q2]) Mx (by rw [Mo x x102, Cx13]) (by rw [Mo (zn S) zS2.1]; exact CN) (fun i hi => by rw [Mo _ zS2.2.1, CF i hi]) (fun j => by rw [Mo _ zS2.2.2.1, CH j]) shM HF b1 f65 f73 f81 f81' f82 f83 f83' f84 f86 f87
  refine ⟨qW T mF, by rw [hq1]; exact rF, ⟨?_, fun z hz => by rw [qkW]; exact kT' z hz⟩, f0, ?_, ⟨H6, ?_, ?_⟩, q50_l l50 hb, Int.le_of_eq (show zm S 37 16 = mF 37 16 by rw [b1 37 16 (by unfold qfly; omega), M37])⟩
  · show mF 1 = zm S 1
    rw [← M1]
    exact funext fun i => b1 1 i (by unfold qfly; omega)
  · show mF 102 0 = _
    rw [b1 102 0 (by unfold qfly; omega), ← hM, qu_s]
  · show zc T ≤ zc S + 500
    rw [zT]
    exact Nat.add_le_add_left (by decide) _
  · show ((zw T : Nat) : Int) ≤ zw S + 2000 + 15000 * ((mF 37 16 + mF 37 65) - (zm S 37 16 + zm S 37 65))
    rw [b1 37 16 (by unfold qfly; omega), f65, M37, hk]
    exact q_em_w wT n14 Pr.2.2
theorem q_emboss5 (d : Nat) (S : zS) (c b : Int) (h : 14 ≤ d) (hH : qHC S) :
    qUn vi qid (qG5 S) S (zD d 137 [vr 3, vi c, vi b] S) (zD d 276 [vr 37, vi c, vi b]) qpsE := by
  obtain ⟨⟨⟨⟨hK, hP, hL, hn⟩, -, ⟨p1, p2, p3, p4, p5, p6⟩, hY⟩, hBB⟩, hYC, hFc⟩ := id hH
  by_cases c0 : (0 ≤ c ∧ c < 3) ∧ (0 ≤ b ∧ b < zm S 37 16)
  · obtain ⟨hc, hb⟩ := c0
    obtain ⟨e, rfl, he⟩ := qd h
    by_cases c1 : zm S 54 b = 0 ∨ zm S 37 65 = 20
    · have hKb : qK (zbump S) := hK
      obtain ⟨⟨kx, -⟩, -, -, -, -, -, -, ⟨x7, -⟩, -⟩ := hY.2.1 b hb.1 hb.2
      have bo := s_bookOf_y e S b (by omega) hK hP hY.1 hb
      have b4 : b < 4 := by have := hY.1.2; omega
      have n65 := p4.1
      refine qUn_n5 hH ⟨1, ?_, ?_, by decide⟩
      · by_cases c2 : zm S 54 b = 0
        · simp (config := { maxSteps := 2000000 }) (disch := first | omega | (simp only [K_3 hK, kx, qb_in, qkW, qmW, qnW, true_and, and_true, or_self, true_or, or_true, and_self]; done) | (simp only [K_3 hK, kx, qb_in, qkW, qmW, qnW, true_and, and_true, or_self, true_or, or_true, and_self]; omega)) only [zD_137, b137_0, b137_4, b137_9, b137_20, b137_25, b137_33, b137_42, b137_53, b137_62, b137_75, b137_93, b137_110, qcall_l, qcall_r, qretn_l, qJ_s, qJ_n, qV0, qEx, ↓qif0, ↓zchk_pos, ↓reduceIte, qput, qWW, qmW, qkW, qnW, K_3 hK, if_neg (show ¬ c < 0 by omega), if_pos hc.2, bo, kx, x7, if_pos c2]
        · simp (config := { maxSteps := 2000000 }) (disch := first | omega | (simp only [K_3 hK, kx, qb_in, qkW, qmW, qnW, true_and, and_true, or_self, true_or, or_true, and_self]; done) | (simp only [K_3 hK, kx, qb_in, qkW, qmW, qnW, true_and, and_true, or_self, true_or, or_true, and_self]; omega)) only [zD_137, b137_0, b137_4, b137_9, b137_20, b137_25, b137_33, b137_42, b137_53, b137_62, b137_75, b137_93, b137_110, qcall_l, qcall_r, qretn_l, qJ_s, qJ_n, qV0, qEx, ↓qif0, ↓zchk_pos, ↓reduceIte, qput, qWW, qmW, qkW, qnW, K_3 hK, if_neg (show ¬ c < 0 by omega), if_pos hc.2, bo, kx, x7, if_neg c2, n65.1, if_neg (show ¬ zm S 37 65 < 20 by omega)]
      · have ie := r_isEmbosser e (zbump S) c (by omega)
        rw [qb_p (show 0 ≤ c ∧ c ≤ 2 by omega)] at ie
        have ib := r_isbook_y e (zbump S) b (by omega) hK hY.1.2 hb
        have p22 : zm (zbump S) 37 22 = 54 := P_37_22 hP
        have hd := r_refuse e S 2 (by omega) hK (by decide)
        by_cases c2 : zm S 54 b = 0
        · have e54 : zm (zbump S) 54 b = 0 := c2
          simp (config := { maxSteps := 2000000 }) (disch := first | omega | (simp only [K_37 hKb, K_54 hKb, p22, hb.1, b4, qb_in, qkW, qmW, qnW, true_and, and_true, or_self, true_or, or_true, and_self]; done) | (simp only [K_37 hKb, K_54 hKb, p22, hb.1, b4, qb_in, qkW, qmW, qnW, true_and, and_true, or_self, true_or, or_true, and_self]; omega)) only [zD_276, b276_0, b276_4, b276_7, b276_12, b276_15, b276_19, b276_20, b276_26, b276_30, b276_39, b276_48, b276_52, b276_53, b276_56, b276_59, b276_61, b276_79, b276_91, b276_98, b276_114, b276_121, b276_126, b276_128, b276_146, b276_160, b276_176, b276_187, b276_205, b276_212, b276_228, b276_237, b276_239, b276_257, qcall_l, qcall_r, qretn_l, qJ_s, qJ_n, qV0, qEx, ↓qif0, ↓zchk_pos, ↓reduceIte, qput, qWW, qmW, qkW, qnW, K_37 hKb, K_54 hKb, ie, ib, p22, e54, hd, Int.reduceEq]
          rfl
        · have e54 : ¬ zm (zbump S) 54 b = 0 := c2
          have e65 : zm (zbump S) 37 65 = 20 := by show zm S 37 65 = 20; omega
          simp (config := { maxSteps := 2000000 }) (disch := first | omega | (simp only [K_37 hKb, K_54 hKb, p22, hb.1, b4, qb_in, qkW, qmW, qnW, true_and, and_true, or_self, true_or, or_true, and_self]; done) | (simp only [K_37 hKb, K_54 hKb, p22, hb.1, b4, qb_in, qkW, qmW, qnW, true_and, and_true, or_self, true_or, or_true, and_self]; omega)) only [zD_276, b276_0, b276_4, b276_7, b276_12, b276_15, b276_19, b276_20, b276_26, b276_30, b276_39, b276_48, b276_52, b276_53, b276_56, b276_59, b276_61, b276_79, b276_91, b276_98, b276_114, b276_121, b276_126, b276_128, b276_146, b276_160, b276_176, b276_187, b276_205, b276_212, b276_228, b276_237, b276_239, b276_257, qcall_l, qcall_r, qretn_l, qJ_s, qJ_n, qV0, qEx, ↓qif0, ↓zchk_pos, ↓reduceIte, qput, qWW, qmW, qkW, qnW, K_37 hKb, K_54 hKb, ie, ib, p22, if_neg e54, e65, hd, Int.reduceEq]
          rfl
    · have n54 := (hY.2.1 b hb.1 hb.2).2.2.2.2.2.2.2.1.2
      have n65 := p4.1.2
      exact q_emboss_y5 e S _ c b _ _ _ _ he hH rfl (by omega) hb rfl hc rfl rfl rfl (by omega)
  · exact qUn_n5 hH (q_emboss_n d S c b (by omega) hK hY.1 (by omega))
theorem q_sheets5 (d : Nat) (S : zS) (h : 3 ≤ d) (hH : qHC S) : qUn0 (qG5 S) S (zD d 140 [vr 3] S) (zD d 288 [vr 37]) := by
  obtain ⟨e, rfl, he⟩ := qd h
  obtain ⟨⟨⟨⟨hK, hP, hL, hn⟩, ⟨hT, hC, hR, hk⟩, ⟨p1, p2, p3, p4, p5, p6⟩, hY⟩, hBB⟩, hYC, hFc⟩ := id hH
  obtain ⟨n1, n2⟩ := p4.1
  refine ⟨zm S 37 73, S, qW S (qu (zm S) 37 0 0), ?_, qKs_r S, ?_, qKs_w S _ (qu_o _ _ _ _ _ (by decide)), q5_f hH (qFx_q (qFq_0 S 0)) (qHC_f hH (qFq_0 S 0)) (q50_z 0)⟩
  · have lp : ∀ (g i : Nat), i + g = (zm S 37 65).toNat → zF_140 e 4 [vr 3, vi (qst_ (zm S) i), vi (i : Int)] [] S = some (.inl (some (vi (zm S 37 73))), S) := by
      intro g
      induction g with
      | zero =>
        intro i hi
        have hi2 : (i : Int) = zm S 37 65 := by omega
        rw [b140_4, hYC.2.2.1, ← hi, Nat.add_zero]
        simp (config := { maxSteps := 2000000 }) (disch := first | omega | (simp only [K_3 hK, qb_in, qkW, qmW, qnW, true_and, and_true, or_self, true_or, or_true, and_self]; done) | (simp only [K_3 hK, qb_in, qkW, qmW, qnW, true_and, and_true, or_self, true_or, or_true, and_self]; omega)) only [b140_0, b140_12, b140_22, b140_30, qcall_l, qcall_r, qretn_l, qJ_s, qJ_n, qV0, qEx, ↓qif0, ↓zchk_pos, ↓reduceIte, qput, qWW, qmW, qkW, qnW, K_3 hK, n1, if_neg (show ¬ (i : Int) < zm S 37 65 by omega)]
      | succ g ih =>
        intro i hi
        have hlt : (i : Int) < zm S 37 65 := by omega
        have r1 := ih (i + 1) (by omega)
        have sr := qst_r hYC i (by omega)
        have sr2 := qst_r hYC (i + 1) (by omega)
        rw [qst_] at r1 sr2
        obtain ⟨b, x, y, w, t, P, ⟨a1, a2, a3, -, -, a6⟩, ⟨b1, b2, b3, b4, b5, b6⟩, ⟨ky, -⟩, -⟩ := hYC.2.1 i (by omega) hlt
        have y1 := (p4.2.1 i (by omega) hlt).2.2.2.1
        rw [a1, a2, a3] at y1
        obtain ⟨⟨kx, -⟩, -, -, -, -, ⟨x5, v1, v2⟩, -⟩ := hY.2.1 b b1 b2
        rw [a2] at kx x5
        have sc : zD e 43 [vr y] S = some (.inl (some (vi (qsh (zm S) (zm S 82 i)))), S) := by
          obtain ⟨f, rfl, -⟩ := qd (show 1 ≤ e by omega)
          unfold qsh
          rw [a1, a2, a6]
          by_cases cb : zm S 53 b = 0
          · rw [if_pos cb]
            simp (config := { maxSteps := 2000000 }) (disch := first | omega | (simp only [ky, y1, kx, qb_in, qkW, qmW, qnW, true_and, and_true, or_self, true_or, or_true, and_self]; done) | (simp only [ky, y1, kx, qb_in, qkW, qmW, qnW, true_and, and_true, or_self, true_or, or_true, and_self]; omega)) only [zD_43, b43_0, b43_10, b43_24, b43_31, qcall_l, qcall_r, qretn_l, qJ_s, qJ_n, qV0, qEx, ↓qif0, ↓zchk_pos, ↓reduceIte, qput, qWW, qmW, qkW, qnW, ky, y1, kx, x5, cb, a6]
          · have z1 : z32 (P + 1) = P + 1 := q32 (by omega)
            have td : Int.tdiv (P + 1) 2 = (P + 1) / 2 := Int.tdiv_eq_ediv_of_nonneg (by omega)
            have z2 : z32 ((P + 1) / 2) = (P + 1) / 2 := q32 (by omega)
            rw [if_neg cb]
            simp (config := { maxSteps := 2000000 }) (disch := first | omega | (simp only [ky, y1, kx, qb_in, qkW, qmW, qnW, true_and, and_true, or_self, true_or, or_true, and_self]; done) | (simp only [ky, y1, kx, qb_in, qkW, qmW, qnW, true_and, and_true, or_self, true_or, or_true, and_self]; omega)) only [zD_43, b43_0, b43_10, b43_24, b43_31, qcall_l, qcall_r, qretn_l, qJ_s, qJ_n, qV0, qEx, ↓qif0, ↓zchk_pos, ↓reduceIte, qput, qWW, qmW, qkW, qnW, ky, y1, kx, x5, if_neg cb, a6, z1, td, z2, Int.reduceNe]
        have z3 : z32 (qst_ (zm S) i + qsh (zm S) (zm S 82 i)) = qst_ (zm S) i + qsh (zm S) (zm S 82 i) := q32 (by omega)
        rw [b140_4]
        simp (config := { maxSteps := 2000000 }) (disch := first | omega | (simp only [K_3 hK, K_13 hK, P_3_8 hP, a3, ky, qb_in, qkW, qmW, qnW, true_and, and_true, or_self, true_or, or_true, and_self]; done) | (simp only [K_3 hK, K_13 hK, P_3_8 hP, a3, ky, qb_in, qkW, qmW, qnW, true_and, and_true, or_self, true_or, or_true, and_self]; omega)) only [b140_0, b140_12, b140_22, b140_30, qcall_l, qcall_r, qretn_l, qJ_s, qJ_n, qV0, qEx, ↓qif0, ↓zchk_pos, ↓reduceIte, qput, qWW, qmW, qkW, qnW, K_3 hK, K_13 hK, P_3_8 hP, n1, if_pos hlt, a3, ky, sc, z3, z32_s i (by omega), r1]
    have r1 := lp (zm S 37 65).toNat 0 (by omega)
    have r1 : zF_140 e 4 [vr 3, vi 0, vi 0] [] S = _ := r1
    simp (config := { maxSteps := 2000000 }) (disch := first | omega | (simp only [qb_in, qkW, qmW, qnW, true_and, and_true, or_self, true_or, or_true, and_self]; done) | (simp only [qb_in, qkW, qmW, qnW, true_and, and_true, or_self, true_or, or_true, and_self]; omega)) only [zD_140, b140_0, b140_12, b140_22, b140_30, qcall_l, qcall_r, qretn_l, qJ_s, qJ_n, qV0, qEx, ↓qif0, ↓zchk_pos, ↓reduceIte, qput, qWW, qmW, qkW, qnW]
    exact r1
  · have e3 : qu (zm S) 37 0 0 37 73 = zm S 37 73 := qu_i _ _ _ _ _ (by decide)
    simp (config := { maxSteps := 2000000 }) (disch := first | omega | (simp only [K_37 hK, qb_in, qkW, qmW, qnW, true_and, and_true, or_self, true_or, or_true, and_self]; done) | (simp only [K_37 hK, qb_in, qkW, qmW, qnW, true_and, and_true, or_self, true_or, or_true, and_self]; omega)) only [zD_288, b288_0, qcall_l, qcall_r, qretn_l, qJ_s, qJ_n, qV0, qEx, ↓qif0, ↓zchk_pos, ↓reduceIte, qput, qWW, qmW, qkW, qnW, K_37 hK, e3]
theorem q_teach5 (d : Nat) (S : zS) (r c x : Int) (h : 4 ≤ d) (hH : qHC S) :
    qUn vi qid (qG5 S) S (zD d 142 [vr 3, vi r, vi c, vi x] S) (zD d 291 [vr 37, vi r, vi c, vi x]) qpsF := by
  obtain ⟨⟨⟨⟨hK, hP, hL, hn⟩, ⟨hT, hC, hR, hk⟩, ⟨p1, p2, p3, p4, p5, p6⟩, hY⟩, hBB⟩, hYC, hFc⟩ := id hH
  have hKb : qK (zbump S) := hK
  by_cases c1 : 0 ≤ r ∧ r < zm S 37 76
  · obtain ⟨e, rfl, he⟩ := qd h
    have ro := s_readerOf_y e S r (by omega) hK hP p5.1 c1
    obtain ⟨⟨kr, kk, x0, x1, x2⟩, -, -, -, -, rk⟩ := p5.2.1 r c1.1 c1.2
    have irb := r_isreader_y e (zbump S) r (by omega) hK p5.1.2 c1
    have hd1 := r_refuse e S 1 (by omega) hK (by decide)
    have r6 : r < 6 := by have := p5.1.2; omega
    by_cases c2 : 0 ≤ c ∧ c < zm S 37 4
    · have co := s_codeOf_y e S c (by omega) hK hP hC c2
      obtain ⟨⟨kc, -⟩, ⟨-, -, cn, N24, -⟩, -⟩ := hC.2.2.1 c c2.1 c2.2
      have c03 : c < 3 := by have := hC.2.1; omega
      have icb := r_isCode' e (zbump S) c (by omega) hKb hC.2.1
      rw [qb_p (show 0 ≤ c ∧ c ≤ zm (zbump S) 37 4 - 1 by show 0 ≤ c ∧ c ≤ zm S 37 4 - 1; omega)] at icb
      have zN : z32 (zm S 39 c - 1) = zm S 39 c - 1 := q32 (by omega)
      have p5' := P_37_5 hP
      by_cases c3 : 0 ≤ x ∧ x < zm S 39 c
      · -- it is taught
        obtain ⟨K1, K2, K3⟩ := rk c c2.1 c03
        obtain ⟨v, hv, v24⟩ := zor_24 (K := zm S 91 (3 * r + c)) ⟨K2, K3⟩ (x := x) ⟨c3.1, by omega⟩
        obtain ⟨y, hy⟩ : ∃ y, zm S 14 r = y := ⟨_, rfl⟩
        rw [hy] at ro kr kk x0 x1 x2 K1
        have sb := s_bitCount e v (qW S (qu (zm S) (y + 1) c (v : Int))) (by omega) v24
        have ey : qu (zm S) (y + 1) c (v : Int) y = zm S y := qu_o _ _ _ _ _ (by omega)
        refine Or.inl ⟨(qpc 24 v : Nat), qW S (qu (zm S) (y + 1) c (v : Int)), ?_, qKs_w S _ (qu_o _ _ _ _ _ (by omega)), ?_⟩
        · simp (config := { maxSteps := 2000000 }) (disch := first | omega | (simp only [K_3 hK, kr, kk, x2, ey, c2.1, c03, qb_in, qkW, qmW, qnW, true_and, and_true, or_self, true_or, or_true, and_self]; done) | (simp only [K_3 hK, kr, kk, x2, ey, c2.1, c03, qb_in, qkW, qmW, qnW, true_and, and_true, or_self, true_or, or_true, and_self]; omega)) only [zD_142, b142_0, b142_5, b142_12, b142_18, b142_27, b142_38, b142_51, b142_61, qcall_l, qcall_r, qretn_l, qJ_s, qJ_n, qV0, qEx, ↓qif0, ↓zchk_pos, ↓reduceIte, qput, qWW, qmW, qkW, qnW, K_3 hK, ro, co, kr, kk, kc, cn, if_neg (show ¬ x < 0 by omega), if_pos c3.2, x2, K1, hv, ey, qu_s, sb]
        · obtain ⟨m1, hm1⟩ : ∃ m1, qu (qu (zm S) (y + 1) c (v : Int)) 102 0 (qid (qpc 24 v : Nat)) = m1 := ⟨_, rfl⟩
          have hq : qo (qW S (qu (zm S) (y + 1) c (v : Int))) (qid (qpc 24 v : Nat)) = qW S m1 := by rw [← hm1]; rfl
          have k1 : ∀ z, z ≠ 102 → z ≠ y + 1 → m1 z = zm S z := fun z h1 h2 => by rw [← hm1, qu_o _ _ _ _ _ h1, qu_o _ _ _ _ _ h2]
          have k37 : m1 37 = zm S 37 := k1 37 (by decide) (by omega)
          have ir := r_isreader_y e (qW S m1) r (by omega) hK (by show 0 ≤ m1 37 76 ∧ m1 37 76 ≤ 6; rw [k37]; exact p5.1.2) (by show 0 ≤ r ∧ r < m1 37 76; rw [k37]; exact c1)
          have ic := r_isCode' e (qW S m1) c (by omega) hK (by show 0 ≤ m1 37 4 ∧ m1 37 4 ≤ 3; rw [k37]; exact hC.2.1)
          rw [qb_p (show 0 ≤ c ∧ c ≤ zm (qW S m1) 37 4 - 1 by show 0 ≤ c ∧ c ≤ m1 37 4 - 1; rw [k37]; omega)] at ic
          have ii := r_in e x 0 (zm S 39 c - 1) (qW S m1) (by omega)
          rw [qb_p (show 0 ≤ x ∧ x ≤ zm S 39 c - 1 by omega)] at ii
          have hd := r_hold0 e S m1 (by omega) hK
          obtain ⟨m2, hm2⟩ : ∃ m2, qu m1 37 0 0 = m2 := ⟨_, rfl⟩
          rw [hm2] at hd
          have k2 : ∀ z, z ≠ 102 → z ≠ y + 1 → z ≠ 37 → m2 z = zm S z := fun z h1 h2 h3 => by rw [← hm2, qu_o _ _ _ _ _ h3, k1 z h1 h2]
          have e78 : m2 37 78 = 91 := by rw [← hm2, qu_i _ _ _ _ _ (by decide), k37]; exact P_37_78 hP
          have q5 : m1 37 5 = 39 := by rw [k37, p5']
          have q39 : m1 39 = zm S 39 := k1 39 (by decide) (by omega)
          have q91 : m2 91 = zm S 91 := k2 91 (by decide) (by omega) (by decide)
          have z1 : z32 (3 * r) = 3 * r := q32 (by omega)
          have z2 : z32 (3 * r + c) = 3 * r + c := q32 (by omega)
          obtain ⟨m3, hm3⟩ : ∃ m3, qu m2 91 (3 * r + c) (v : Int) = m3 := ⟨_, rfl⟩
          have f78 : m3 37 78 = 91 := by rw [← hm3, qu_o _ _ _ _ _ (by decide), e78]
          have f91 : m3 91 (3 * r + c) = (v : Int) := by rw [← hm3, qu_s]
          have rb := r_bits e v (qW S m3) (by omega) v24
          have k3 : ∀ z, z ≠ 102 → z ≠ y + 1 → z ≠ 37 → z ≠ 91 → m3 z = zm S z := fun z h1 h2 h3 h4 => by rw [← hm3, qu_o _ _ _ _ _ h4, k2 z h1 h2 h3]
          have k3' : ∀ j, j ≠ 0 → m3 37 j = zm S 37 j := fun j hj => by rw [← hm3, qu_o _ _ _ _ _ (by decide), ← hm2, qu_i _ _ _ _ _ hj, k37]
          have k91 : ∀ i, m3 91 i = if i = 3 * r + c then (v : Int) else zm S 91 i := fun i => by rw [← hm3, qu_row, q91]
          have ky : ∀ i, m3 (y + 1) i = if i = c then (v : Int) else zm S (y + 1) i := fun i => by
            rw [← hm3, qu_o _ _ _ _ _ (by omega), ← hm2, qu_o _ _ _ _ _ (by omega), ← hm1, qu_o _ _ _ _ _ (by omega), qu_row]
          refine ⟨qW S m3, ?_, qKs_w S _ (k3 1 (by decide) (by omega) (by decide) (by decide)), ?_, ?_, q5_w ?_ (k3' 16 (by decide)) (k3' 65 (by decide)) (Or.inl (k3' 50 (by decide)))⟩
          · rw [hq]
            simp (config := { maxSteps := 2000000 }) (disch := first | omega | (simp only [K_37 hK, K_39 hK, K_91 hK, q5, q39, e78, z1, z2, f78, c2.1, c03, qb_in, qkW, qmW, qnW, true_and, and_true, or_self, true_or, or_true, and_self]; done) | (simp only [K_37 hK, K_39 hK, K_91 hK, q5, q39, e78, z1, z2, f78, c2.1, c03, qb_in, qkW, qmW, qnW, true_and, and_true, or_self, true_or, or_true, and_self]; omega)) only [zD_291, b291_0, b291_5, b291_8, b291_13, b291_16, b291_29, b291_32, b291_36, b291_37, b291_45, b291_49, b291_50, b291_53, b291_56, b291_58, b291_70, b291_82, b291_87, qcall_l, qcall_r, qretn_l, qJ_s, qJ_n, qV0, qEx, ↓qif0, ↓zchk_pos, ↓reduceIte, qput, qWW, qmW, qkW, qnW, K_37 hK, K_39 hK, K_91 hK, ir, ic, ii, hd, q5, q39, zN, e78, z1, z2, q91, hv, hm3, f78, f91, rb, Int.reduceEq]
          · show m3 37 0 = 0
            rw [← hm3, qu_o _ _ _ _ _ (by decide), ← hm2, qu_s]
          · show m3 102 0 = _
            rw [← hm3, qu_o _ _ _ _ _ (by decide), ← hm2, qu_o _ _ _ _ _ (by decide), ← hm1, qu_s]
          · refine qk_teach hH (qAg_w fun z j hz => ?_) ⟨?_, fun i i1 i2 => ?_, fun i k i1 i2 k2 => ?_, fun i i1 i2 => ?_⟩
            · have kq := qknn kk
              by_cases z1 : z = y + 1
              · exact absurd (by unfold qEk_teach; rw [z1]; omega) hz
              · by_cases z2 : z = 37
                · subst z2
                  exact k3' j fun q => hz (by unfold qEk_teach; omega)
                · exact congrFun (k3 z (fun q => hz (by unfold qEk_teach; omega)) z1 z2 fun q => hz (by unfold qEk_teach; omega)) j
            · unfold qNr
              show m3 3 11 = m3 37 76 ∧ 0 ≤ m3 37 76 ∧ m3 37 76 ≤ 6
              rw [k3 3 (by decide) (by omega) (by decide) (by decide), k3' 76 (by decide)]
              exact p5.1
            · have i2 : i < m3 37 76 := i2
              rw [k3' 76 (by decide)] at i2
              obtain ⟨⟨b1, b2, b3, b4, b5⟩, g0, g1, g2, g3, g4⟩ := p5.2.1 i i1 i2
              have ne1 : zm S 14 i ≠ y + 1 := qkne b1 kk (by decide)
              have e14 : m3 14 = zm S 14 := k3 14 (by decide) (by omega) (by decide) (by decide)
              have exi : m3 (zm S 14 i) = zm S (zm S 14 i) := k3 _ (by omega) ne1 (by omega) (by omega)
              show (zk S (m3 14 i) = (27, 0) ∧ zk S (m3 14 i + 1) = (0, 3) ∧ 103 ≤ m3 14 i ∧ m3 14 i + 2 ≤ zn S ∧ m3 (m3 14 i) 1 = m3 14 i + 1) ∧ m3 (m3 14 i) 0 = m3 90 i ∧ (0 ≤ m3 90 i ∧ m3 90 i ≤ 2) ∧ m3 (m3 14 i) 3 = m3 92 i ∧ (-2147483648 ≤ m3 92 i ∧ m3 92 i < 2147483648) ∧ (∀ c, 0 ≤ c → c < 3 → m3 (m3 14 i + 1) c = m3 91 (3 * i + c) ∧ 0 ≤ m3 91 (3 * i + c) ∧ m3 91 (3 * i + c) < 16777216)
              rw [e14, exi, k3 90 (by decide) (by omega) (by decide) (by decide), k3 92 (by decide) (by omega) (by decide) (by decide)]
              refine ⟨⟨b1, b2, b3, b4, b5⟩, g0, g1, g2, g3, fun c' d1 d2 => ?_⟩
              rw [k91]
              by_cases q : i = r
              · subst q
                rw [hy, ky]
                by_cases q2 : c' = c
                · subst q2
                  rw [if_pos rfl, if_pos rfl]
                  omega
                · rw [if_neg q2, if_neg (by omega)]
                  have := g4 c' d1 d2
                  rw [hy] at this
                  exact this
              · have ne2 : zm S 14 i ≠ y := by
                  rcases Int.lt_or_gt_of_ne q with q3 | q3
                  · rw [← hy]; exact p5.2.2.1 i r i1 q3 c1.2
                  · rw [← hy]; exact Ne.symm (p5.2.2.1 r i c1.1 q3 i2)
                rw [if_neg (by omega), k3 _ (by omega) (by omega) (by omega) (by omega)]
                exact g4 c' d1 d2
            · have k2 : k < m3 37 76 := k2
              rw [k3' 76 (by decide)] at k2
              show m3 14 i ≠ m3 14 k
              rw [k3 14 (by decide) (by omega) (by decide) (by decide)]
              exact p5.2.2.1 i k i1 i2 k2
            · have i1 : m3 37 76 ≤ i := i1
              rw [k3' 76 (by decide)] at i1
              obtain ⟨g1, g2⟩ := p5.2.2.2 i i1 i2
              refine ⟨?_, fun c' d1 d2 => ?_⟩
              · show m3 92 i = 0
                rw [k3 92 (by decide) (by omega) (by decide) (by decide), g1]
              · show m3 91 (3 * i + c') = 0
                rw [k91, if_neg (by omega)]
                exact g2 c' d1 d2
      · refine qUn_n5 hH ⟨2, ?_, ?_, by decide⟩
        · by_cases c4 : x < 0
          · simp (config := { maxSteps := 2000000 }) (disch := first | omega | (simp only [K_3 hK, kr, kc, qb_in, qkW, qmW, qnW, true_and, and_true, or_self, true_or, or_true, and_self]; done) | (simp only [K_3 hK, kr, kc, qb_in, qkW, qmW, qnW, true_and, and_true, or_self, true_or, or_true, and_self]; omega)) only [zD_142, b142_0, b142_5, b142_12, b142_18, b142_27, b142_38, b142_51, b142_61, qcall_l, qcall_r, qretn_l, qJ_s, qJ_n, qV0, qEx, ↓qif0, ↓zchk_pos, ↓reduceIte, qput, qWW, qmW, qkW, qnW, K_3 hK, ro, co, kr, kc, if_pos c4]
          · simp (config := { maxSteps := 2000000 }) (disch := first | omega | (simp only [K_3 hK, kr, kc, qb_in, qkW, qmW, qnW, true_and, and_true, or_self, true_or, or_true, and_self]; done) | (simp only [K_3 hK, kr, kc, qb_in, qkW, qmW, qnW, true_and, and_true, or_self, true_or, or_true, and_self]; omega)) only [zD_142, b142_0, b142_5, b142_12, b142_18, b142_27, b142_38, b142_51, b142_61, qcall_l, qcall_r, qretn_l, qJ_s, qJ_n, qV0, qEx, ↓qif0, ↓zchk_pos, ↓reduceIte, qput, qWW, qmW, qkW, qnW, K_3 hK, ro, co, kr, kc, cn, if_neg c4, if_neg (show ¬ x < zm S 39 c by omega)]
        · have ii := r_in e x 0 (zm S 39 c - 1) (zbump S) (by omega)
          rw [qb_n (show ¬ (0 ≤ x ∧ x ≤ zm S 39 c - 1) by omega)] at ii
          have e5 : zm (zbump S) 37 5 = 39 := p5'
          have e39 : zm (zbump S) 39 c = zm S 39 c := rfl
          simp (config := { maxSteps := 2000000 }) (disch := first | omega | (simp only [K_37 hKb, K_39 hKb, e5, c2.1, c03, qb_in, qkW, qmW, qnW, true_and, and_true, or_self, true_or, or_true, and_self]; done) | (simp only [K_37 hKb, K_39 hKb, e5, c2.1, c03, qb_in, qkW, qmW, qnW, true_and, and_true, or_self, true_or, or_true, and_self]; omega)) only [zD_291, b291_0, b291_5, b291_8, b291_13, b291_16, b291_29, b291_32, b291_36, b291_37, b291_45, b291_49, b291_50, b291_53, b291_56, b291_58, b291_70, b291_82, b291_87, qcall_l, qcall_r, qretn_l, qJ_s, qJ_n, qV0, qEx, ↓qif0, ↓zchk_pos, ↓reduceIte, qput, qWW, qmW, qkW, qnW, K_37 hKb, K_39 hKb, irb, icb, e5, e39, zN, ii, hd1, Int.reduceEq]
          rfl
    · refine qUn_n5 hH ⟨2, ?_, ?_, by decide⟩
      · have co := s_codeOf_n e S c (by omega) hK hC c2
        simp (config := { maxSteps := 2000000 }) (disch := first | omega | (simp only [K_3 hK, kr, qb_in, qkW, qmW, qnW, true_and, and_true, or_self, true_or, or_true, and_self]; done) | (simp only [K_3 hK, kr, qb_in, qkW, qmW, qnW, true_and, and_true, or_self, true_or, or_true, and_self]; omega)) only [zD_142, b142_0, b142_5, b142_12, b142_18, b142_27, b142_38, b142_51, b142_61, qcall_l, qcall_r, qretn_l, qJ_s, qJ_n, qV0, qEx, ↓qif0, ↓zchk_pos, ↓reduceIte, qput, qWW, qmW, qkW, qnW, K_3 hK, ro, co, kr]
      · have ic := r_isCode' e (zbump S) c (by omega) hKb hC.2.1
        rw [qb_n (show ¬ (0 ≤ c ∧ c ≤ zm (zbump S) 37 4 - 1) by show ¬ (0 ≤ c ∧ c ≤ zm S 37 4 - 1); omega)] at ic
        simp (config := { maxSteps := 2000000 }) (disch := first | omega | (simp only [K_37 hKb, qb_in, qkW, qmW, qnW, true_and, and_true, or_self, true_or, or_true, and_self]; done) | (simp only [K_37 hKb, qb_in, qkW, qmW, qnW, true_and, and_true, or_self, true_or, or_true, and_self]; omega)) only [zD_291, b291_0, b291_5, b291_8, b291_13, b291_16, b291_29, b291_32, b291_36, b291_37, b291_45, b291_49, b291_50, b291_53, b291_56, b291_58, b291_70, b291_82, b291_87, qcall_l, qcall_r, qretn_l, qJ_s, qJ_n, qV0, qEx, ↓qif0, ↓zchk_pos, ↓reduceIte, qput, qWW, qmW, qkW, qnW, K_37 hKb, irb, ic, hd1, Int.reduceEq]
        rfl
  · exact qUn_n5 hH (q_teach_n d S r c x (by omega) hK p5.1 c1)
theorem q_pass5 (d : Nat) (S : zS) (n : Int) (h : 8 ≤ d) (hH : qHC S) :
    qUn vi qid (qG5 S) S (zD d 146 [vr 3, vi n] S) (zD d 300 [vr 37, vi n]) qpsA := by
  obtain ⟨e, rfl, he⟩ := qd h
  obtain ⟨⟨⟨⟨hK, hP, hL, hn⟩, -, ⟨p1, p2, p3, p4, p5, p6⟩, hY⟩, -⟩, -⟩ := id hH
  have hKb : qK (zbump S) := hK
  by_cases c1 : 1 ≤ n ∧ n ≤ 100
  · have zr : -2147483648 ≤ zm S 37 3 + n ∧ zm S 37 3 + n < 2147483648 := by have := p2.2; omega
    by_cases c2 : zm S 37 3 + n ≤ 1000
    · obtain ⟨N, rfl⟩ : ∃ N : Nat, n = (N : Int) := ⟨n.toNat, by omega⟩
      obtain ⟨hp0, hq0⟩ := qPC_0 hH
      obtain ⟨p, hp⟩ : ∃ p : qQ, (zm S 86, zm S 87, zm S 88, zm S 93, zm S 94, zm S 37 80, zm S 37 3) = p := ⟨_, rfl⟩
      have pd : p.2.2.2.2.2.2 = zm S 37 3 := by rw [← hp]
      have pr0 : ∀ m1 : Int → Int → Int, (∀ z, z = 86 ∨ z = 87 ∨ z = 88 ∨ z = 93 ∨ z = 94 → m1 z = zm S z) → m1 37 80 = zm S 37 80 → m1 37 3 = zm S 37 3 → qPR m1 m1 p := fun m1 g1 g2 g3 => by
        rw [← hp]
        exact ⟨⟨g1 86 (by omega), g1 87 (by omega), g1 88 (by omega)⟩, ⟨g1 93 (by omega), g1 94 (by omega)⟩, ⟨g2, g3⟩, fun _ _ _ => rfl⟩
      rw [hp] at hp0 hq0
      obtain ⟨mC, rC, qC⟩ := s_passOut e S p N (by omega) hH hq0 (by omega) (by rw [pd]; omega) N 0 (zm S) (by omega) hp0
      have rC : zF_146 e 49 [vr 3, vi (N : Int), vi 0, vi 0] [] S = some (.inl (some (vi (qds (zm S) p N).2)), qW S mC) := rC
      obtain ⟨kq, -, -, -⟩ := qds_k hq0 p4.1.2 N (by rw [pd]; omega)
      obtain ⟨v, hv⟩ : ∃ v, (qds (zm S) p N).2 = v := ⟨_, rfl⟩
      rw [hv] at rC
      have cf := qC.2.2.2.2
      have c1m : mC 1 = zm S 1 := funext fun j => cf 1 j (qPE_lo (by decide) (by omega) (by omega) (by decide))
      have c37 : mC 37 = zm S 37 := funext fun j => cf 37 j (qPE_lo (by decide) (by omega) (by omega) (by decide))
      have lo : ∀ z, z < 103 → z ≠ 3 → z ≠ 15 → z ≠ 16 → z ≠ 17 → mC z = zm S z := fun z g1 g2 g3 g4 g5 => funext fun j => cf z j (qPE_lo g1 (by omega) (by omega) ⟨g4, g5⟩)
      have hPC := qPC_P hH qC
      refine Or.inl ⟨v, qW S mC, ?_, qKs_w S _ c1m, ?_⟩
      · simp (config := { maxSteps := 2000000 }) (disch := first | omega | (simp only [K_3 hK, qb_in, qkW, qmW, qnW, true_and, and_true, or_self, true_or, or_true, and_self]; done) | (simp only [K_3 hK, qb_in, qkW, qmW, qnW, true_and, and_true, or_self, true_or, or_true, and_self]; omega)) only [zD_146, b146_0, b146_5, b146_11, b146_22, b146_34, b146_45, b146_54, b146_69, b146_77, qcall_l, qcall_r, qretn_l, qJ_s, qJ_n, qV0, qEx, ↓qif0, ↓zchk_pos, ↓reduceIte, qput, qWW, qmW, qkW, qnW, K_3 hK, if_neg (show ¬ (N : Int) < 1 by omega), if_neg (show ¬ (100 : Int) < (N : Int) by omega), p2.1, q32 zr, if_neg (show ¬ (1000 : Int) < zm S 37 3 + N by omega), rC]
      · obtain ⟨M, hM⟩ : ∃ M, qu mC 102 0 (qid v) = M := ⟨_, rfl⟩
        have hq : qo (qW S mC) (qid v) = qW S M := by rw [← hM]; rfl
        rw [hq]
        have m37 : M 37 = zm S 37 := by rw [← hM, qu_o _ _ _ _ _ (by decide), c37]
        have M3 : M 37 3 = zm S 37 3 := by rw [m37]
        have i1 := r_in e (N : Int) 1 100 (qW S M) (by omega)
        rw [qb_p c1] at i1
        have hd := r_hold0 e S M (by omega) hK
        obtain ⟨m1, hm1⟩ : ∃ m1, qu M 37 0 0 = m1 := ⟨_, rfl⟩
        rw [hm1] at hd
        have k1 : ∀ z j, z ≠ 102 → ¬ (z = 37 ∧ j = 0) → m1 z j = mC z j := fun z j g1 g2 => by
          rw [← hm1]
          by_cases c : z = 37
          · subst c
            rw [qu_i _ _ _ _ _ fun q => g2 ⟨rfl, q⟩, ← hM, qu_o _ _ _ _ _ g1]
          · rw [qu_o _ _ _ _ _ c, ← hM, qu_o _ _ _ _ _ g1]
        have hP1 : qP m1 := hPC.same fun q hq => by
          have n := qPt_n q hq
          exact k1 q.1 q.2.1 (by omega) (by omega)
        have k1s : ∀ z, z < 102 → z ≠ 3 → z ≠ 15 → z ≠ 16 → z ≠ 17 → z ≠ 37 → m1 z = zm S z := fun z g1 g2 g3 g4 g5 g6 => by
          rw [← lo z (by omega) g2 g3 g4 g5]
          exact funext fun j => k1 z j (by omega) (by omega)
        have k37 : ∀ j, j ≠ 0 → m1 37 j = zm S 37 j := fun j hj => by rw [k1 37 j (by decide) (by omega), c37]
        obtain ⟨m2, r2, q2⟩ := r_passOut e S m1 p N (by omega) hH hP1 ⟨fun z hz => k1s z (by omega) (by omega) (by omega) (by omega) (by omega) (by omega), fun j j0 _ _ => k37 j j0⟩ hq0 (by omega) (by rw [pd]; omega) N 0 m1 vu (by omega) (pr0 m1 (fun z hz => k1s z (by omega) (by omega) (by omega) (by omega) (by omega) (by omega)) (k37 80 (by decide)) (k37 3 (by decide)))
        have r2 : zF_300 e 44 [vr 37, vi (N : Int), vi 0, vi 0, vu] [] (qW S m1) = some (.inl (some (vi (qds (zm S) p N).2)), qW S m2) := r2
        rw [hv] at r2
        have fr := q2.2.2.2
        refine ⟨qW S m2, ?_, qKs_w S _ ?_, ?_, ?_, q5_w (q_pass_T hH qC kq k1 q2) ?_ ?_ (Or.inl (by show m2 37 50 = zm S 37 50; rw [fr 37 50 (by unfold qRE; omega), k37 50 (by decide)]))⟩
        · simp (config := { maxSteps := 2000000 }) (disch := first | omega | (simp only [K_37 hK, M3, qb_in, qkW, qmW, qnW, true_and, and_true, or_self, true_or, or_true, and_self]; done) | (simp only [K_37 hK, M3, qb_in, qkW, qmW, qnW, true_and, and_true, or_self, true_or, or_true, and_self]; omega)) only [zD_300, b300_0, b300_8, b300_11, b300_15, b300_27, b300_31, b300_32, b300_35, b300_38, b300_40, b300_49, b300_71, b300_78, b300_86, b300_92, qcall_l, qcall_r, qretn_l, qJ_s, qJ_n, qV0, qEx, ↓qif0, ↓zchk_pos, ↓reduceIte, qput, qWW, qmW, qkW, qnW, K_37 hK, i1, M3, q32 zr, if_neg (show ¬ (1000 : Int) < zm S 37 3 + N by omega), hd, r2, Int.reduceEq]
        · rw [← k1s 1 (by decide) (by decide) (by decide) (by decide) (by decide) (by decide)]
          exact funext fun j => fr 1 j (by unfold qRE; omega)
        · show m2 37 0 = 0
          rw [fr 37 0 (by unfold qRE; omega), ← hm1, qu_s]
        · show m2 102 0 = _
          rw [fr 102 0 (by unfold qRE; omega), ← hm1, qu_o _ _ _ _ _ (by decide), ← hM, qu_s]
        · rw [fr 37 16 (by unfold qRE; omega), k37 16 (by decide)]
        · rw [fr 37 65 (by unfold qRE; omega), k37 65 (by decide)]
    · refine qUn_n5 hH ⟨1, ?_, ?_, by decide⟩
      · simp (config := { maxSteps := 2000000 }) (disch := first | omega | (simp only [K_3 hK, qb_in, qkW, qmW, qnW, true_and, and_true, or_self, true_or, or_true, and_self]; done) | (simp only [K_3 hK, qb_in, qkW, qmW, qnW, true_and, and_true, or_self, true_or, or_true, and_self]; omega)) only [zD_146, b146_0, b146_5, b146_11, b146_22, b146_34, b146_45, b146_54, b146_69, b146_77, qcall_l, qcall_r, qretn_l, qJ_s, qJ_n, qV0, qEx, ↓qif0, ↓zchk_pos, ↓reduceIte, qput, qWW, qmW, qkW, qnW, K_3 hK, if_neg (show ¬ n < 1 by omega), if_neg (show ¬ 100 < n by omega), p2.1, q32 zr, if_pos (show 1000 < zm S 37 3 + n by omega)]
      · have i1 := r_in e n 1 100 (zbump S) (by omega)
        rw [qb_p c1] at i1
        have hd := r_refuse e S 2 (by omega) hK (by decide)
        have b3 : zm (zbump S) 37 3 = zm S 37 3 := rfl
        simp (config := { maxSteps := 2000000 }) (disch := first | omega | (simp only [K_37 hKb, qb_in, qkW, qmW, qnW, true_and, and_true, or_self, true_or, or_true, and_self]; done) | (simp only [K_37 hKb, qb_in, qkW, qmW, qnW, true_and, and_true, or_self, true_or, or_true, and_self]; omega)) only [zD_300, b300_0, b300_8, b300_11, b300_15, b300_27, b300_31, b300_32, b300_35, b300_38, b300_40, b300_49, b300_71, b300_78, b300_86, b300_92, qcall_l, qcall_r, qretn_l, qJ_s, qJ_n, qV0, qEx, ↓qif0, ↓zchk_pos, ↓reduceIte, qput, qWW, qmW, qkW, qnW, K_37 hKb, i1, b3, q32 zr, if_pos (show 1000 < zm S 37 3 + n by omega), hd, Int.reduceEq]
        rfl
  · refine qUn_n5 hH ⟨0, ?_, ?_, by decide⟩
    · by_cases c4 : n < 1
      · simp (config := { maxSteps := 2000000 }) (disch := first | omega | (simp only [qb_in, qkW, qmW, qnW, true_and, and_true, or_self, true_or, or_true, and_self]; done) | (simp only [qb_in, qkW, qmW, qnW, true_and, and_true, or_self, true_or, or_true, and_self]; omega)) only [zD_146, b146_0, b146_5, b146_11, b146_22, b146_34, b146_45, b146_54, b146_69, b146_77, qcall_l, qcall_r, qretn_l, qJ_s, qJ_n, qV0, qEx, ↓qif0, ↓zchk_pos, ↓reduceIte, qput, qWW, qmW, qkW, qnW, if_pos c4]
      · simp (config := { maxSteps := 2000000 }) (disch := first | omega | (simp only [qb_in, qkW, qmW, qnW, true_and, and_true, or_self, true_or, or_true, and_self]; done) | (simp only [qb_in, qkW, qmW, qnW, true_and, and_true, or_self, true_or, or_true, and_self]; omega)) only [zD_146, b146_0, b146_5, b146_11, b146_22, b146_34, b146_45, b146_54, b146_69, b146_77, qcall_l, qcall_r, qretn_l, qJ_s, qJ_n, qV0, qEx, ↓qif0, ↓zchk_pos, ↓reduceIte, qput, qWW, qmW, qkW, qnW, if_neg c4, if_pos (show 100 < n by omega)]
    · have i1 := r_in e n 1 100 (zbump S) (by omega)
      rw [qb_n c1] at i1
      have hd := r_refuse e S 1 (by omega) hK (by decide)
      simp (config := { maxSteps := 2000000 }) (disch := first | omega | (simp only [K_37 hKb, qb_in, qkW, qmW, qnW, true_and, and_true, or_self, true_or, or_true, and_self]; done) | (simp only [K_37 hKb, qb_in, qkW, qmW, qnW, true_and, and_true, or_self, true_or, or_true, and_self]; omega)) only [zD_300, b300_0, b300_8, b300_11, b300_15, b300_27, b300_31, b300_32, b300_35, b300_38, b300_40, b300_49, b300_71, b300_78, b300_86, b300_92, qcall_l, qcall_r, qretn_l, qJ_s, qJ_n, qV0, qEx, ↓qif0, ↓zchk_pos, ↓reduceIte, qput, qWW, qmW, qkW, qnW, K_37 hKb, i1, hd, Int.reduceEq]
      rfl
