/-! Questions for all of a book. -/
theorem q_ofBook (d : Nat) (S : zS) (b a : Int) (Q : zS → Prop) (h : 17 ≤ d) (hH : qHC S) (hQ : ∀ m2, qFx S m2 → qHC (qW S m2) → Q (qW S m2)) (hQx : ∀ m2, qFx S m2 → qHC (qW S m2) → Q (zbump (qW S m2))) :
    qUn vi qid Q S (zD d 134 [vr 3, vi b, vi a] S) (zD d 271 [vr 37, vi b, vi a]) qpsD := by
  obtain ⟨⟨⟨⟨hK, hP, hL, hn⟩, ⟨hT, hC, hR, hk⟩, hPo, hY⟩, hBB⟩, hYC, hFc⟩ := id hH
  by_cases c1 : 0 ≤ b ∧ b < zm S 37 16
  · obtain ⟨e, rfl, he⟩ := qd h
    obtain ⟨⟨a1, a2, a3, a4, a5⟩, -, -, ⟨x3, wr⟩, ⟨x4, tr⟩, -, x6, ⟨x7, n0, n80⟩, x8, -⟩ := hY.2.1 b c1.1 c1.2
    have bo := s_bookOf_y e S b (by omega) hK hP hY.1 c1
    have hKb : qK (zbump S) := hK
    have hbn : b < 4 := by have := hY.1.2; omega
    have ibb := r_isbook_y e (zbump S) b (by omega) hKb hY.1.2 c1
    by_cases c3 : 0 ≤ a ∧ a ≤ 5
    · have ref : ∀ (m1 : Int → Int → Int), (∀ z, z ≠ 102 → m1 z = zm S z) → qHB1 (qW S m1) → ∃ m3, qF0 m1 m3 ∧ m3 37 0 = 0 ∧ qHB1 (qW S m3) ∧ zD (e + 1) 271 [vr 37, vi b, vi a] (qW S m1) = zF_271 e 40 [vr 37, vi b, vi a, vu] [vi (zm S (zm S 8 b) 9)] (qW S m3) ∧ m3 54 b = zm S 54 b ∧ (m3 37 53 + zm S (zm S 8 b) 9 = zm S (zm S 8 b) 10 ∧ 0 ≤ m3 37 53 ∧ m3 37 53 ≤ 240 ∧ 0 ≤ zm S (zm S 8 b) 9 ∧ zm S (zm S 8 b) 9 ≤ 121) ∧ m3 37 63 = zm S (zm S 8 b) 11 ∧ (∀ z, z ≤ 63 → z ≠ 37 → m3 z = zm S z) ∧ (∀ z, 90 ≤ z → z ≠ 102 → m3 z = zm S z) ∧ (∀ z, 81 ≤ z → z ≤ 88 → m3 z = zm S z) ∧ m3 37 16 = zm S 37 16 ∧ m3 37 65 = zm S 37 65 := by
        intro m1 k1 H1
        have k37 : m1 37 = zm S 37 := k1 37 (by decide)
        have hb1 : 0 ≤ b ∧ b < m1 37 16 := by rw [k37]; exact c1
        have ib := r_isbook_y e (qW S m1) b (by omega) hK H1.1.2.2.1.2 hb1
        have i2 := r_in e a 0 5 (qW S m1) (by omega)
        rw [qb_p c3] at i2
        have hd := r_hold0 e S m1 (by omega) hK
        have H2 := qHB_0 H1 0
        obtain ⟨m2, hm2⟩ : ∃ m2, qu m1 37 0 0 = m2 := ⟨_, rfl⟩
        have H2 : qHB1 (qW S (qu m1 37 0 0)) := H2
        rw [hm2] at hd H2
        have f2 : qF0 m1 m2 := by rw [← hm2]; exact qF0_u m1 0
        obtain ⟨g1, g2, -, g4⟩ := qF0_b k1 f2
        have n16 : m2 37 16 = zm S 37 16 := g4 16 (by unfold qfly; omega)
        have hb2 : 0 ≤ b ∧ b < zm (qW S m2) 37 16 := by show 0 ≤ b ∧ b < m2 37 16; rw [n16]; exact c1
        obtain ⟨m3, r3, f3, H3, l3⟩ := r_pagesOf e (qW S m2) b (by omega) H2 hb2
        rw [show zm (qW S m2) 8 = zm S 8 from g1 8 (by decide) (by decide), show zm (qW S m2) (zm S 8 b) = zm S (zm S 8 b) from g2 _ (by omega) (by omega)] at r3
        have r3 : zD e 266 [vr 37, vi b] (qW S m2) = some (.inl (some (vi (zm S (zm S 8 b) 9))), qW S m3) := r3
        have H3 : qHB1 (qW S m3) := H3
        have l3 : qLd (qW S m3) b := l3
        have f13 : qF0 m1 m3 := qF0_t f2 (qF0_l f3)
        have h30 : m3 37 0 = 0 := by
          rw [show m3 37 0 = m2 37 0 from f3 37 0 (by unfold qfly; omega), ← hm2, qu_s]
        obtain ⟨o1, o2, o3, o4⟩ := qF0_b k1 f13
        have m16 : m3 37 16 = zm S 37 16 := o4 16 (by unfold qfly; omega)
        have m65 : m3 37 65 = zm S 37 65 := o4 65 (by unfold qfly; omega)
        obtain ⟨J', gL, gE, gA, gU, gM, P', ll', v0, v1⟩ := qBB_l (H3.2 b c1.1 (by show b < m3 37 16; rw [m16]; exact c1.2)) l3
        have q8 : zm (qW S m3) 8 = zm S 8 := o1 8 (by decide) (by decide)
        have q51 : zm (qW S m3) 51 = zm S 51 := o1 51 (by decide) (by decide)
        have q52 : zm (qW S m3) 52 = zm S 52 := o1 52 (by decide) (by decide)
        have qx : zm (qW S m3) (zm S 8 b) = zm S (zm S 8 b) := o2 _ (by omega) (by omega)
        rw [q8] at v0
        rw [q51, q52] at v0 v1
        obtain ⟨Pr', x9', zk'⟩ := qB0_P v0 wr.1 tr
        have cb := v0.2.2.2.1
        rw [qx] at cb x9'
        have n53 : m3 37 53 = (qZn (zm S 51 b) (zm S 52 b) gL gE gA J').1 := v1.1.1
        have J80 := v0.1.2.1
        have zz := zk'.1
        refine ⟨m3, f13, h30, H3, ?_, by rw [o1 54 (by decide) (by decide)], ⟨by rw [cb.1, n53, x9'], by omega, by omega, by omega, by omega⟩, by rw [cb.2]; exact v1.2.2, o1, o2, o3, m16, m65⟩
        simp (config := { maxSteps := 2000000 }) (disch := first | omega | (simp only [K_37 hK, qb_in, qkW, qmW, qnW, true_and, and_true, or_self, true_or, or_true, and_self]; done) | (simp only [K_37 hK, qb_in, qkW, qmW, qnW, true_and, and_true, or_self, true_or, or_true, and_self]; omega)) only [zD_271, b271_0, b271_6, b271_9, b271_13, b271_19, b271_22, b271_26, b271_27, b271_30, b271_33, b271_35, b271_46, b271_50, b271_59, b271_64, b271_68, b271_74, b271_75, b271_80, b271_87, b271_92, b271_97, b271_100, b271_105, qcall_l, qcall_r, qretn_l, qJ_s, qJ_n, qV0, qEx, ↓qif0, ↓zchk_pos, ↓reduceIte, qput, qWW, qmW, qkW, qnW, K_37 hK, ib, i2, hd, r3, Int.reduceEq]
      have hcase : a = 0 ∨ a = 1 ∨ a = 2 ∨ a = 3 ∨ a = 4 ∨ a = 5 := by omega
      rcases hcase with rfl | rfl | rfl | rfl | rfl | rfl
      · refine qUn_ck hH (zm S 54 b) ?_ (fun m1 k1 H1 => ?_) hQ
        · skip
          simp (config := { maxSteps := 2000000 }) (disch := first | omega | (simp only [K_3 hK, a1, qb_in, qkW, qmW, qnW, true_and, and_true, or_self, true_or, or_true, and_self]; done) | (simp only [K_3 hK, a1, qb_in, qkW, qmW, qnW, true_and, and_true, or_self, true_or, or_true, and_self]; omega)) only [zD_134, b134_0, b134_5, b134_44, b134_49, b134_54, b134_59, b134_64, b134_69, b134_74, i134, w134_7, qcall_l, qcall_r, qretn_l, qJ_s, qJ_n, qV0, qEx, ↓qif0, ↓zchk_pos, ↓reduceIte, qput, qWW, qmW, qkW, qnW, K_3 hK, bo, w134_7, Int.reduceEq, a1, x7]
        · obtain ⟨m3, f13, h30, H3, r, n54, ⟨n10, nb⟩, n63, o1, o2, o3, m16, m65⟩ := ref m1 k1 H1
          have hP3 := H3.1.1.2.1
          have p22 : m3 37 22 = 54 := P_37_22 hP3
          refine ⟨m3, ?_, f13, h30, H3⟩
          rw [r, b271_40]
          simp (config := { maxSteps := 2000000 }) (disch := first | omega | (simp only [K_37 hK, K_54 hK, p22, qb_in, qkW, qmW, qnW, true_and, and_true, or_self, true_or, or_true, and_self]; done) | (simp only [K_37 hK, K_54 hK, p22, qb_in, qkW, qmW, qnW, true_and, and_true, or_self, true_or, or_true, and_self]; omega)) only [b271_0, b271_6, b271_9, b271_13, b271_19, b271_22, b271_26, b271_27, b271_30, b271_33, b271_35, b271_40, b271_46, b271_50, b271_59, b271_64, b271_68, b271_74, b271_75, b271_80, b271_87, b271_92, b271_97, b271_100, b271_105, qcall_l, qcall_r, qretn_l, qJ_s, qJ_n, qV0, qEx, ↓qif0, ↓zchk_pos, ↓reduceIte, qput, qWW, qmW, qkW, qnW, K_37 hK, K_54 hK, p22, Int.reduceLT, Int.reduceEq, n54]
      · refine qUn_ck hH (zm S (zm S 8 b) 9) ?_ (fun m1 k1 H1 => ?_) hQ
        · skip
          simp (config := { maxSteps := 2000000 }) (disch := first | omega | (simp only [K_3 hK, a1, qb_in, qkW, qmW, qnW, true_and, and_true, or_self, true_or, or_true, and_self]; done) | (simp only [K_3 hK, a1, qb_in, qkW, qmW, qnW, true_and, and_true, or_self, true_or, or_true, and_self]; omega)) only [zD_134, b134_0, b134_5, b134_44, b134_49, b134_54, b134_59, b134_64, b134_69, b134_74, i134, w134_7, qcall_l, qcall_r, qretn_l, qJ_s, qJ_n, qV0, qEx, ↓qif0, ↓zchk_pos, ↓reduceIte, qput, qWW, qmW, qkW, qnW, K_3 hK, bo, w134_7, Int.reduceEq, a1, a1]
        · obtain ⟨m3, f13, h30, H3, r, n54, ⟨n10, nb⟩, n63, o1, o2, o3, m16, m65⟩ := ref m1 k1 H1
          have hP3 := H3.1.1.2.1
          have p22 : m3 37 22 = 54 := P_37_22 hP3
          refine ⟨m3, ?_, f13, h30, H3⟩
          rw [r, b271_40]
          simp (config := { maxSteps := 2000000 }) (disch := first | omega | (simp only [K_37 hK, K_54 hK, p22, qb_in, qkW, qmW, qnW, true_and, and_true, or_self, true_or, or_true, and_self]; done) | (simp only [K_37 hK, K_54 hK, p22, qb_in, qkW, qmW, qnW, true_and, and_true, or_self, true_or, or_true, and_self]; omega)) only [b271_0, b271_6, b271_9, b271_13, b271_19, b271_22, b271_26, b271_27, b271_30, b271_33, b271_35, b271_40, b271_46, b271_50, b271_59, b271_64, b271_68, b271_74, b271_75, b271_80, b271_87, b271_92, b271_97, b271_100, b271_105, qcall_l, qcall_r, qretn_l, qJ_s, qJ_n, qV0, qEx, ↓qif0, ↓zchk_pos, ↓reduceIte, qput, qWW, qmW, qkW, qnW, K_37 hK, K_54 hK, p22, Int.reduceLT, Int.reduceEq, Int.reduceEq]
      · refine qUn_ck hH (zm S (zm S 8 b) 10) ?_ (fun m1 k1 H1 => ?_) hQ
        · skip
          simp (config := { maxSteps := 2000000 }) (disch := first | omega | (simp only [K_3 hK, a1, qb_in, qkW, qmW, qnW, true_and, and_true, or_self, true_or, or_true, and_self]; done) | (simp only [K_3 hK, a1, qb_in, qkW, qmW, qnW, true_and, and_true, or_self, true_or, or_true, and_self]; omega)) only [zD_134, b134_0, b134_5, b134_44, b134_49, b134_54, b134_59, b134_64, b134_69, b134_74, i134, w134_7, qcall_l, qcall_r, qretn_l, qJ_s, qJ_n, qV0, qEx, ↓qif0, ↓zchk_pos, ↓reduceIte, qput, qWW, qmW, qkW, qnW, K_3 hK, bo, w134_7, Int.reduceEq, a1, a1]
        · obtain ⟨m3, f13, h30, H3, r, n54, ⟨n10, nb⟩, n63, o1, o2, o3, m16, m65⟩ := ref m1 k1 H1
          have hP3 := H3.1.1.2.1
          have p22 : m3 37 22 = 54 := P_37_22 hP3
          refine ⟨m3, ?_, f13, h30, H3⟩
          rw [r, b271_40]
          have z3 : z32 (zm S (zm S 8 b) 10) = zm S (zm S 8 b) 10 := q32 (by omega)
          simp (config := { maxSteps := 2000000 }) (disch := first | omega | (simp only [K_37 hK, K_54 hK, p22, qb_in, qkW, qmW, qnW, true_and, and_true, or_self, true_or, or_true, and_self]; done) | (simp only [K_37 hK, K_54 hK, p22, qb_in, qkW, qmW, qnW, true_and, and_true, or_self, true_or, or_true, and_self]; omega)) only [b271_0, b271_6, b271_9, b271_13, b271_19, b271_22, b271_26, b271_27, b271_30, b271_33, b271_35, b271_40, b271_46, b271_50, b271_59, b271_64, b271_68, b271_74, b271_75, b271_80, b271_87, b271_92, b271_97, b271_100, b271_105, qcall_l, qcall_r, qretn_l, qJ_s, qJ_n, qV0, qEx, ↓qif0, ↓zchk_pos, ↓reduceIte, qput, qWW, qmW, qkW, qnW, K_37 hK, K_54 hK, p22, Int.reduceLT, Int.reduceEq, n10, z3]
      · refine qUn_ck hH (zm S (zm S 8 b) 11) ?_ (fun m1 k1 H1 => ?_) hQ
        · skip
          simp (config := { maxSteps := 2000000 }) (disch := first | omega | (simp only [K_3 hK, a1, qb_in, qkW, qmW, qnW, true_and, and_true, or_self, true_or, or_true, and_self]; done) | (simp only [K_3 hK, a1, qb_in, qkW, qmW, qnW, true_and, and_true, or_self, true_or, or_true, and_self]; omega)) only [zD_134, b134_0, b134_5, b134_44, b134_49, b134_54, b134_59, b134_64, b134_69, b134_74, i134, w134_7, qcall_l, qcall_r, qretn_l, qJ_s, qJ_n, qV0, qEx, ↓qif0, ↓zchk_pos, ↓reduceIte, qput, qWW, qmW, qkW, qnW, K_3 hK, bo, w134_7, Int.reduceEq, a1, a1]
        · obtain ⟨m3, f13, h30, H3, r, n54, ⟨n10, nb⟩, n63, o1, o2, o3, m16, m65⟩ := ref m1 k1 H1
          have hP3 := H3.1.1.2.1
          have p22 : m3 37 22 = 54 := P_37_22 hP3
          refine ⟨m3, ?_, f13, h30, H3⟩
          rw [r, b271_40]
          simp (config := { maxSteps := 2000000 }) (disch := first | omega | (simp only [K_37 hK, K_54 hK, p22, qb_in, qkW, qmW, qnW, true_and, and_true, or_self, true_or, or_true, and_self]; done) | (simp only [K_37 hK, K_54 hK, p22, qb_in, qkW, qmW, qnW, true_and, and_true, or_self, true_or, or_true, and_self]; omega)) only [b271_0, b271_6, b271_9, b271_13, b271_19, b271_22, b271_26, b271_27, b271_30, b271_33, b271_35, b271_40, b271_46, b271_50, b271_59, b271_64, b271_68, b271_74, b271_75, b271_80, b271_87, b271_92, b271_97, b271_100, b271_105, qcall_l, qcall_r, qretn_l, qJ_s, qJ_n, qV0, qEx, ↓qif0, ↓zchk_pos, ↓reduceIte, qput, qWW, qmW, qkW, qnW, K_37 hK, K_54 hK, p22, Int.reduceLT, Int.reduceEq, n63]
      · refine qUn_ck hH (zm S (zm S 8 b) 12) ?_ (fun m1 k1 H1 => ?_) hQ
        · skip
          simp (config := { maxSteps := 2000000 }) (disch := first | omega | (simp only [K_3 hK, a1, qb_in, qkW, qmW, qnW, true_and, and_true, or_self, true_or, or_true, and_self]; done) | (simp only [K_3 hK, a1, qb_in, qkW, qmW, qnW, true_and, and_true, or_self, true_or, or_true, and_self]; omega)) only [zD_134, b134_0, b134_5, b134_44, b134_49, b134_54, b134_59, b134_64, b134_69, b134_74, i134, w134_7, qcall_l, qcall_r, qretn_l, qJ_s, qJ_n, qV0, qEx, ↓qif0, ↓zchk_pos, ↓reduceIte, qput, qWW, qmW, qkW, qnW, K_3 hK, bo, w134_7, Int.reduceEq, a1, a1]
        · obtain ⟨m3, f13, h30, H3, r, n54, ⟨n10, nb⟩, n63, o1, o2, o3, m16, m65⟩ := ref m1 k1 H1
          have hP3 := H3.1.1.2.1
          have p22 : m3 37 22 = 54 := P_37_22 hP3
          obtain ⟨m4, r4, f4, H4⟩ := r_allDots e (qW S m3) b (by omega) H3 (by show 0 ≤ b ∧ b < m3 37 16; rw [m16]; exact c1)
          rw [show zm (qW S m3) 8 = zm S 8 from o1 8 (by decide) (by decide), show zm (qW S m3) (zm S 8 b) = zm S (zm S 8 b) from o2 _ (by omega) (by omega)] at r4
          have r4 : zD e 270 [vr 37, vi b] (qW S m3) = some (.inl (some (vi (zm S (zm S 8 b) 12))), qW S m4) := r4
          refine ⟨m4, ?_, qF0_t f13 (qF0_l f4), by rw [show m4 37 0 = m3 37 0 from f4 37 0 (by unfold qfly; omega), h30], H4⟩
          rw [r, b271_40]
          simp (config := { maxSteps := 2000000 }) (disch := first | omega | (simp only [K_37 hK, qb_in, qkW, qmW, qnW, true_and, and_true, or_self, true_or, or_true, and_self]; done) | (simp only [K_37 hK, qb_in, qkW, qmW, qnW, true_and, and_true, or_self, true_or, or_true, and_self]; omega)) only [b271_0, b271_6, b271_9, b271_13, b271_19, b271_22, b271_26, b271_27, b271_30, b271_33, b271_35, b271_40, b271_46, b271_50, b271_59, b271_64, b271_68, b271_74, b271_75, b271_80, b271_87, b271_92, b271_97, b271_100, b271_105, qcall_l, qcall_r, qretn_l, qJ_s, qJ_n, qV0, qEx, ↓qif0, ↓zchk_pos, ↓reduceIte, qput, qWW, qmW, qkW, qnW, K_37 hK, Int.reduceLT, Int.reduceEq, r4]
      · refine qUn_ck hH (qbn (zm S) b (zm S 37 65).toNat) ?_ (fun m1 k1 H1 => ?_) hQ
        · have h13 := hYC.1 b c1.1 c1.2
          simp (config := { maxSteps := 2000000 }) (disch := first | omega | (simp only [K_3 hK, a1, qb_in, qkW, qmW, qnW, true_and, and_true, or_self, true_or, or_true, and_self]; done) | (simp only [K_3 hK, a1, qb_in, qkW, qmW, qnW, true_and, and_true, or_self, true_or, or_true, and_self]; omega)) only [zD_134, b134_0, b134_5, b134_44, b134_49, b134_54, b134_59, b134_64, b134_69, b134_74, i134, w134_7, qcall_l, qcall_r, qretn_l, qJ_s, qJ_n, qV0, qEx, ↓qif0, ↓zchk_pos, ↓reduceIte, qput, qWW, qmW, qkW, qnW, K_3 hK, bo, w134_7, Int.reduceEq, a1, h13]
        · obtain ⟨m3, f13, h30, H3, r, n54, ⟨n10, nb⟩, n63, o1, o2, o3, m16, m65⟩ := ref m1 k1 H1
          have hP3 := H3.1.1.2.1
          have p22 : m3 37 22 = 54 := P_37_22 hP3
          have hn65 := hPo.2.2.2.1.1.2
          have r4 := r_copiesOf e (qW S m3) b (by omega) hK hP3 (by show 0 ≤ m3 37 65 ∧ m3 37 65 ≤ 20; rw [m65]; exact hn65)
          rw [show zm (qW S m3) = m3 from rfl, m65, qbn_e (o3 82 (by decide) (by decide))] at r4
          refine ⟨m3, ?_, f13, h30, H3⟩
          rw [r, b271_40]
          simp (config := { maxSteps := 2000000 }) (disch := first | omega | (simp only [K_37 hK, qb_in, qkW, qmW, qnW, true_and, and_true, or_self, true_or, or_true, and_self]; done) | (simp only [K_37 hK, qb_in, qkW, qmW, qnW, true_and, and_true, or_self, true_or, or_true, and_self]; omega)) only [b271_0, b271_6, b271_9, b271_13, b271_19, b271_22, b271_26, b271_27, b271_30, b271_33, b271_35, b271_40, b271_46, b271_50, b271_59, b271_64, b271_68, b271_74, b271_75, b271_80, b271_87, b271_92, b271_97, b271_100, b271_105, qcall_l, qcall_r, qretn_l, qJ_s, qJ_n, qV0, qEx, ↓qif0, ↓zchk_pos, ↓reduceIte, qput, qWW, qmW, qkW, qnW, K_37 hK, Int.reduceLT, Int.reduceEq, r4]
    · have i2 := r_in e a 0 5 (zbump S) (by omega)
      rw [qb_n c3] at i2
      have hd := r_holdn e (zbump S) (zm S) 2 (by omega) hK (by decide)
      refine qUn_cx hH 0 ?_ (by decide) ⟨qu (zm S) 37 0 2, ?_, qF0_u _ 2, qu_s _ _ _ _, qHB_0 (S := S) (m := zm S) (qHB1_0 hH.1) 2⟩ hQx
      · simp (config := { maxSteps := 2000000 }) (disch := first | omega | (simp only [K_3 hK, qb_in, qkW, qmW, qnW, true_and, and_true, or_self, true_or, or_true, and_self]; done) | (simp only [K_3 hK, qb_in, qkW, qmW, qnW, true_and, and_true, or_self, true_or, or_true, and_self]; omega)) only [zD_134, b134_0, b134_5, b134_44, b134_49, b134_54, b134_59, b134_64, b134_69, b134_74, i134, w134_7, qcall_l, qcall_r, qretn_l, qJ_s, qJ_n, qV0, qEx, ↓qif0, ↓zchk_pos, ↓reduceIte, qput, qWW, qmW, qkW, qnW, K_3 hK, bo, w134_7, if_neg (show ¬ a = 0 by omega), if_neg (show ¬ a = 1 by omega), if_neg (show ¬ a = 2 by omega), if_neg (show ¬ a = 3 by omega), if_neg (show ¬ a = 4 by omega), if_neg (show ¬ a = 5 by omega)]
      · have hd : zD e 182 [vr 37, vi 2] (zbump S) = some (.inl (some (vi 0)), qW (zbump S) (qu (zm S) 37 0 2)) := hd
        simp (config := { maxSteps := 2000000 }) (disch := first | omega | (simp only [K_37 hKb, qb_in, qkW, qmW, qnW, true_and, and_true, or_self, true_or, or_true, and_self]; done) | (simp only [K_37 hKb, qb_in, qkW, qmW, qnW, true_and, and_true, or_self, true_or, or_true, and_self]; omega)) only [zD_271, b271_0, b271_6, b271_9, b271_13, b271_19, b271_22, b271_26, b271_27, b271_30, b271_33, b271_35, b271_46, b271_50, b271_59, b271_64, b271_68, b271_74, b271_75, b271_80, b271_87, b271_92, b271_97, b271_100, b271_105, qcall_l, qcall_r, qretn_l, qJ_s, qJ_n, qV0, qEx, ↓qif0, ↓zchk_pos, ↓reduceIte, qput, qWW, qmW, qkW, qnW, K_37 hKb, ibb, i2, hd, Int.reduceEq]
        rfl
  · exact qUn_cn hH (q_ofBook_n d S b a (by omega) hK hY.1 c1) hQx
