/-! Passing days: what is known behind it. -/
theorem qPC_0 {S : zS} (hH : qHC S) : qPC S (zm S) (zm S 86, zm S 87, zm S 88, zm S 93, zm S 94, zm S 37 80, zm S 37 3) ∧ qQk (zm S) (zm S 86, zm S 87, zm S 88, zm S 93, zm S 94, zm S 37 80, zm S 37 3) := by
  obtain ⟨⟨⟨-, -, ⟨-, p2, p3, p4, p5, p6⟩, -⟩, -⟩, -⟩ := hH
  refine ⟨⟨⟨p2.1, p3.1.1⟩, fun k k1 k2 => ?_, fun k k1 k2 => ?_, fun i i1 i2 => ?_, fun _ _ _ => rfl⟩, ⟨p3.1.2, fun k k1 k2 => ?_, p3.2.2, fun k k1 k2 => ?_, fun _ _ => ⟨rfl, rfl, rfl⟩, p2.2⟩⟩
  · have := p3.2.1 k k1 k2
    exact ⟨this.1, this.2.1⟩
  · obtain ⟨-, -, -, -, -, a, b, c, -⟩ := p4.2.1 k k1 k2
    exact ⟨a, b, c⟩
  · rw [p6 i i1 i2, qhl_v]
  · exact (p3.2.1 k k1 k2).2.2
  · exact (p4.2.1 k k1 k2).2.2.2.2.2.2.2.2
theorem q_pass_T {S : zS} {mC m1 m2 : Int → Int → Int} {p : qQ} (hH : qHC S) (hC : qPC S mC p) (hq : qQk (zm S) p) (h1 : ∀ z j, z ≠ 102 → ¬ (z = 37 ∧ j = 0) → m1 z j = mC z j) (hR : qPR m1 m2 p) : qHC (qW S m2) := by
  obtain ⟨⟨⟨⟨hK, -, hL, hn⟩, -, ⟨p1, p2, p3, p4, p5, p6⟩, hY⟩, hBB⟩, hYC, hFc⟩ := id hH
  obtain ⟨⟨q86, q87, q88⟩, ⟨q93, q94⟩, ⟨q80, q3⟩, qf⟩ := hR
  obtain ⟨⟨c13, c15⟩, c16, c6, cl, cf⟩ := hC
  obtain ⟨⟨n0, n30⟩, w1, w2, w4, w5, w6⟩ := hq
  have n65 := p4.1
  have all : ∀ z j, z ≠ 102 → ¬ (z = 37 ∧ j = 0) → ¬ qRE z j → m2 z j = mC z j := fun z j g1 g2 g3 => by rw [qf z j g3, h1 z j g1 g2]
  have allS : ∀ z j, z ≠ 102 → ¬ (z = 37 ∧ j = 0) → ¬ qRE z j → ¬ qPE S z j → m2 z j = zm S z j := fun z j g1 g2 g3 g4 => by rw [all z j g1 g2 g3, cf z j g4]
  have lo : ∀ z, z < 86 → z ≠ 3 → z ≠ 15 → z ≠ 16 → z ≠ 17 → z ≠ 37 → m2 z = zm S z := fun z g1 g2 g3 g4 g5 g6 => funext fun j => allS z j (by omega) (by omega) (by unfold qRE; omega) (qPE_lo (by omega) (by omega) (by omega) ⟨g4, g5⟩)
  have l37 : ∀ j, j ≠ 0 → j ≠ 3 → j ≠ 80 → m2 37 j = zm S 37 j := fun j g1 g2 g3 => allS 37 j (by decide) (by omega) (by unfold qRE; omega) (qPE_lo (by decide) (by omega) (by omega) (by decide))
  have l3 : ∀ j, j ≠ 13 → m2 3 j = zm S 3 j := fun j g1 => allS 3 j (by decide) (by omega) (by unfold qRE; omega) (qPE_lo (by decide) (by omega) (by omega) (by decide))
  refine qk_pass hH (qAg_w fun z j hz => ?_) ⟨?_, ?_⟩ ⟨⟨?_, ?_⟩, fun k k1 k2 => ?_, fun i k i1 i2 k2 => ?_⟩ ⟨?_, fun k k1 k2 => ?_, fun i k i1 i2 k2 => ?_⟩ fun i i1 i2 => ?_
  · unfold qEk_pass at hz
    by_cases c : 86 ≤ z ∧ z ≤ 88
    · have nj : ¬ (0 ≤ j ∧ j < zm S 37 65) := by omega
      obtain ⟨u1, u2, u3⟩ := w5 j nj
      have hz' : z = 86 ∨ z = 87 ∨ z = 88 := by omega
      rcases hz' with rfl | rfl | rfl
      · rw [q86, u1]
      · rw [q87, u2]
      · rw [q88, u3]
    · refine allS z j (by omega) (by omega) (by unfold qRE; omega) fun q => ?_
      rcases q with q | q | q | q | ⟨q0, ⟨q1, q2⟩ | ⟨q1, q2⟩⟩
      · omega
      · omega
      · omega
      · omega
      · have := qknn q1; omega
      · have := qknn q1; omega
  · show m2 3 13 = m2 37 3
    rw [q3, all 3 13 (by decide) (by omega) (by unfold qRE; omega), c13]
  · show 0 ≤ m2 37 3 ∧ m2 37 3 ≤ 1000
    rw [q3]; exact w6
  · show m2 15 2 = m2 37 80
    rw [q80, all 15 2 (by decide) (by omega) (by unfold qRE; omega), c15]
  · show 0 ≤ m2 37 80 ∧ m2 37 80 ≤ 30
    rw [q80]; exact ⟨n0, n30⟩
  · have k2 : k < m2 37 80 := k2
    rw [q80] at k2
    show m2 16 k = m2 93 k ∧ m2 17 k = m2 94 k ∧ (0 ≤ m2 93 k ∧ m2 93 k < m2 37 76) ∧ (0 ≤ m2 94 k ∧ m2 94 k < m2 37 16)
    rw [q93, q94, l37 76 (by decide) (by decide) (by decide), l37 16 (by decide) (by decide) (by decide), all 16 k (by decide) (by omega) (by unfold qRE; omega), all 17 k (by decide) (by omega) (by unfold qRE; omega)]
    exact ⟨(c16 k k1 k2).1, (c16 k k1 k2).2, w1 k k1 k2⟩
  · have k2 : k < m2 37 80 := k2
    rw [q80] at k2
    show ¬ (m2 93 i = m2 93 k ∧ m2 94 i = m2 94 k)
    rw [q93, q94]
    exact w2 i k i1 i2 k2
  · unfold qNc
    show m2 3 9 = m2 37 65 ∧ 0 ≤ m2 37 65 ∧ m2 37 65 ≤ 20
    rw [l3 9 (by decide), l37 65 (by decide) (by decide) (by decide)]
    exact n65
  · have k2 : k < m2 37 65 := k2
    rw [l37 65 (by decide) (by decide) (by decide)] at k2
    obtain ⟨⟨ky, y103, yn⟩, y0, y1, y2, y3, -⟩ := p4.2.1 k k1 k2
    obtain ⟨d6, d7, d8⟩ := c6 k k1 k2
    show (zk S (m2 13 k) = (24, 0) ∧ 103 ≤ m2 13 k ∧ m2 13 k < zn S) ∧ m2 (m2 13 k) 0 = m2 82 k ∧ (0 ≤ m2 82 k ∧ m2 82 k < m2 37 16) ∧ m2 (m2 13 k) 1 = m2 8 (m2 82 k) ∧ m2 (m2 13 k) 5 = m2 84 k ∧ m2 (m2 13 k) 6 = m2 86 k ∧ m2 (m2 13 k) 7 = m2 87 k ∧ m2 (m2 13 k) 8 = m2 88 k ∧ (m2 86 k = -1 ∧ m2 87 k = -1 ∨ (0 ≤ m2 86 k ∧ m2 86 k < m2 37 76) ∧ (0 ≤ m2 87 k ∧ m2 87 k ≤ 1020))
    rw [lo 13 (by decide) (by decide) (by decide) (by decide) (by decide) (by decide), lo 82 (by decide) (by decide) (by decide) (by decide) (by decide) (by decide), lo 8 (by decide) (by decide) (by decide) (by decide) (by decide) (by decide), lo 84 (by decide) (by decide) (by decide) (by decide) (by decide) (by decide), q86, q87, q88, l37 16 (by decide) (by decide) (by decide), l37 76 (by decide) (by decide) (by decide)]
    generalize zm S 13 k = y at *
    have ay : ∀ j, m2 y j = mC y j := fun j => all y j (by omega) (by omega) (by unfold qRE; omega)
    have ys : ∀ j, j < 6 → m2 y j = zm S y j := fun j hj => by rw [ay, cf y j (qPE_k y103 (fun _ => hj) (fun q => by rw [ky] at q; exact absurd q (by decide)))]
    rw [ys 0 (by decide), ys 1 (by decide), ys 5 (by decide), ay 6, ay 7, ay 8]
    exact ⟨⟨ky, y103, yn⟩, y0, y1, y2, y3, d6, d7, d8, w4 k k1 k2⟩
  · have k2 : k < m2 37 65 := k2
    rw [l37 65 (by decide) (by decide) (by decide)] at k2
    show m2 13 i ≠ m2 13 k
    rw [lo 13 (by decide) (by decide) (by decide) (by decide) (by decide) (by decide)]
    exact p4.2.2 i k i1 i2 k2
  · have i2 : i < m2 37 76 := i2
    rw [l37 76 (by decide) (by decide) (by decide)] at i2
    have z := (p5.2.1 i i1 i2).1.2.2.1
    have c := cl i i1 i2
    show m2 (m2 14 i) 2 = qhl m2 i (-1) (m2 37 65).toNat
    rw [qhl_v, q86, l37 65 (by decide) (by decide) (by decide), lo 14 (by decide) (by decide) (by decide) (by decide) (by decide) (by decide), all _ 2 (by omega) (by omega) (by unfold qRE; omega)]
    exact c
theorem q_pass (d : Nat) (S : zS) (n : Int) (h : 8 ≤ d) (hH : qHC S) :
    qUn vi qid (qGo S) S (zD d 146 [vr 3, vi n] S) (zD d 300 [vr 37, vi n]) qpsA := by
  obtain ⟨e, rfl, he⟩ := qd h
  obtain ⟨⟨⟨⟨hK, hP, hL, hn⟩, -, ⟨p1, p2, p3, p4, p5, p6⟩, hY⟩, -⟩, -⟩ := id hH
  have hKb : qK (zbump S) := hK
  by_cases c1 : 1 ≤ n ∧ n ≤ 100
  · have zr : -2147483648 ≤ zm S 37 3 + n ∧ zm S 37 3 + n < 2147483648 := by have := p2.2; omega
    by_cases c2 : zm S 37 3 + n ≤ 1000
    · obtain ⟨N, rfl⟩ : ∃ N : Nat, n = (N : Int) := ⟨n.toNat, by omega⟩
      obtain ⟨hp0, hq0⟩ := qPC_0 hH
      obtain ⟨p, hp⟩ : ∃ p : qQ, (zm S 86, zm S 87, zm S 88, zm S 93, zm S 94, zm S 37 80, zm S 37 3) = p := ⟨_, rfl⟩
      have pd : p.2.2.2.2.2.2 = zm S 37 3 := by rw [← hp]
      have pr0 : ∀ m1 : Int → Int → Int, (∀ z, z = 86 ∨ z = 87 ∨ z = 88 ∨ z = 93 ∨ z = 94 → m1 z = zm S z) → m1 37 80 = zm S 37 80 → m1 37 3 = zm S 37 3 → qPR m1 m1 p := fun m1 g1 g2 g3 => by
        rw [← hp]
        exact ⟨⟨g1 86 (by omega), g1 87 (by omega), g1 88 (by omega)⟩, ⟨g1 93 (by omega), g1 94 (by omega)⟩, ⟨g2, g3⟩, fun _ _ _ => rfl⟩
      rw [hp] at hp0 hq0
      obtain ⟨mC, rC, qC⟩ := s_passOut e S p N (by omega) hH hq0 (by omega) (by rw [pd]; omega) N 0 (zm S) (by omega) hp0
      have rC : zF_146 e 49 [vr 3, vi (N : Int), vi 0, vi 0] [] S = some (.inl (some (vi (qds (zm S) p N).2)), qW S mC) := rC
      obtain ⟨kq, -, -, -⟩ := qds_k hq0 p4.1.2 N (by rw [pd]; omega)
      obtain ⟨v, hv⟩ : ∃ v, (qds (zm S) p N).2 = v := ⟨_, rfl⟩
      rw [hv] at rC
      have cf := qC.2.2.2.2
      have c1m : mC 1 = zm S 1 := funext fun j => cf 1 j (qPE_lo (by decide) (by omega) (by omega) (by decide))
      have c37 : mC 37 = zm S 37 := funext fun j => cf 37 j (qPE_lo (by decide) (by omega) (by omega) (by decide))
      have lo : ∀ z, z < 103 → z ≠ 3 → z ≠ 15 → z ≠ 16 → z ≠ 17 → mC z = zm S z := fun z g1 g2 g3 g4 g5 => funext fun j => cf z j (qPE_lo g1 (by omega) (by omega) ⟨g4, g5⟩)
      have hPC := qPC_P hH qC
      refine Or.inl ⟨v, qW S mC, ?_, qKs_w S _ c1m, ?_⟩
      · simp (config := { maxSteps := 2000000 }) (disch := first | omega | (simp only [K_3 hK, qb_in, qkW, qmW, qnW, true_and, and_true, or_self, true_or, or_true, and_self]; done) | (simp only [K_3 hK, qb_in, qkW, qmW, qnW, true_and, and_true, or_self, true_or, or_true, and_self]; omega)) only [zD_146, b146_0, b146_5, b146_11, b146_22, b146_34, b146_45, b146_54, b146_69, b146_77, qcall_l, qcall_r, qretn_l, qJ_s, qJ_n, qV0, qEx, ↓qif0, ↓zchk_pos, ↓reduceIte, qput, qWW, qmW, qkW, qnW, K_3 hK, if_neg (show ¬ (N : Int) < 1 by omega), if_neg (show ¬ (100 : Int) < (N : Int) by omega), p2.1, q32 zr, if_neg (show ¬ (1000 : Int) < zm S 37 3 + N by omega), rC]
      · obtain ⟨M, hM⟩ : ∃ M, qu mC 102 0 (qid v) = M := ⟨_, rfl⟩
        have hq : qo (qW S mC) (qid v) = qW S M := by rw [← hM]; rfl
        rw [hq]
        have m37 : M 37 = zm S 37 := by rw [← hM, qu_o _ _ _ _ _ (by decide), c37]
        have M3 : M 37 3 = zm S 37 3 := by rw [m37]
        have i1 := r_in e (N : Int) 1 100 (qW S M) (by omega)
        rw [qb_p c1] at i1
        have hd := r_hold0 e S M (by omega) hK
        obtain ⟨m1, hm1⟩ : ∃ m1, qu M 37 0 0 = m1 := ⟨_, rfl⟩
        rw [hm1] at hd
        have k1 : ∀ z j, z ≠ 102 → ¬ (z = 37 ∧ j = 0) → m1 z j = mC z j := fun z j g1 g2 => by
          rw [← hm1]
          by_cases c : z = 37
          · subst c
            rw [qu_i _ _ _ _ _ fun q => g2 ⟨rfl, q⟩, ← hM, qu_o _ _ _ _ _ g1]
          · rw [qu_o _ _ _ _ _ c, ← hM, qu_o _ _ _ _ _ g1]
        have hP1 : qP m1 := hPC.same fun q hq => by
          have n := qPt_n q hq
          exact k1 q.1 q.2.1 (by omega) (by omega)
        have k1s : ∀ z, z < 102 → z ≠ 3 → z ≠ 15 → z ≠ 16 → z ≠ 17 → z ≠ 37 → m1 z = zm S z := fun z g1 g2 g3 g4 g5 g6 => by
          rw [← lo z (by omega) g2 g3 g4 g5]
          exact funext fun j => k1 z j (by omega) (by omega)
        have k37 : ∀ j, j ≠ 0 → m1 37 j = zm S 37 j := fun j hj => by rw [k1 37 j (by decide) (by omega), c37]
        obtain ⟨m2, r2, q2⟩ := r_passOut e S m1 p N (by omega) hH hP1 ⟨fun z hz => k1s z (by omega) (by omega) (by omega) (by omega) (by omega) (by omega), fun j j0 _ _ => k37 j j0⟩ hq0 (by omega) (by rw [pd]; omega) N 0 m1 vu (by omega) (pr0 m1 (fun z hz => k1s z (by omega) (by omega) (by omega) (by omega) (by omega) (by omega)) (k37 80 (by decide)) (k37 3 (by decide)))
        have r2 : zF_300 e 44 [vr 37, vi (N : Int), vi 0, vi 0, vu] [] (qW S m1) = some (.inl (some (vi (qds (zm S) p N).2)), qW S m2) := r2
        rw [hv] at r2
        have fr := q2.2.2.2
        refine ⟨qW S m2, ?_, qKs_w S _ ?_, ?_, ?_, qGo_w (q_pass_T hH qC kq k1 q2) ?_ ?_⟩
        · simp (config := { maxSteps := 2000000 }) (disch := first | omega | (simp only [K_37 hK, M3, qb_in, qkW, qmW, qnW, true_and, and_true, or_self, true_or, or_true, and_self]; done) | (simp only [K_37 hK, M3, qb_in, qkW, qmW, qnW, true_and, and_true, or_self, true_or, or_true, and_self]; omega)) only [zD_300, b300_0, b300_8, b300_11, b300_15, b300_27, b300_31, b300_32, b300_35, b300_38, b300_40, b300_49, b300_71, b300_78, b300_86, b300_92, qcall_l, qcall_r, qretn_l, qJ_s, qJ_n, qV0, qEx, ↓qif0, ↓zchk_pos, ↓reduceIte, qput, qWW, qmW, qkW, qnW, K_37 hK, i1, M3, q32 zr, if_neg (show ¬ (1000 : Int) < zm S 37 3 + N by omega), hd, r2, Int.reduceEq]
        · rw [← k1s 1 (by decide) (by decide) (by decide) (by decide) (by decide) (by decide)]
          exact funext fun j => fr 1 j (by unfold qRE; omega)
        · show m2 37 0 = 0
          rw [fr 37 0 (by unfold qRE; omega), ← hm1, qu_s]
        · show m2 102 0 = _
          rw [fr 102 0 (by unfold qRE; omega), ← hm1, qu_o _ _ _ _ _ (by decide), ← hM, qu_s]
        · rw [fr 37 16 (by unfold qRE; omega), k37 16 (by decide)]
        · rw [fr 37 65 (by unfold qRE; omega), k37 65 (by decide)]
    · refine qUn_cn hH ⟨1, ?_, ?_, by decide⟩ fun m2 f H => qGo_x hH f H
      · simp (config := { maxSteps := 2000000 }) (disch := first | omega | (simp only [K_3 hK, qb_in, qkW, qmW, qnW, true_and, and_true, or_self, true_or, or_true, and_self]; done) | (simp only [K_3 hK, qb_in, qkW, qmW, qnW, true_and, and_true, or_self, true_or, or_true, and_self]; omega)) only [zD_146, b146_0, b146_5, b146_11, b146_22, b146_34, b146_45, b146_54, b146_69, b146_77, qcall_l, qcall_r, qretn_l, qJ_s, qJ_n, qV0, qEx, ↓qif0, ↓zchk_pos, ↓reduceIte, qput, qWW, qmW, qkW, qnW, K_3 hK, if_neg (show ¬ n < 1 by omega), if_neg (show ¬ 100 < n by omega), p2.1, q32 zr, if_pos (show 1000 < zm S 37 3 + n by omega)]
      · have i1 := r_in e n 1 100 (zbump S) (by omega)
        rw [qb_p c1] at i1
        have hd := r_refuse e S 2 (by omega) hK (by decide)
        have b3 : zm (zbump S) 37 3 = zm S 37 3 := rfl
        simp (config := { maxSteps := 2000000 }) (disch := first | omega | (simp only [K_37 hKb, qb_in, qkW, qmW, qnW, true_and, and_true, or_self, true_or, or_true, and_self]; done) | (simp only [K_37 hKb, qb_in, qkW, qmW, qnW, true_and, and_true, or_self, true_or, or_true, and_self]; omega)) only [zD_300, b300_0, b300_8, b300_11, b300_15, b300_27, b300_31, b300_32, b300_35, b300_38, b300_40, b300_49, b300_71, b300_78, b300_86, b300_92, qcall_l, qcall_r, qretn_l, qJ_s, qJ_n, qV0, qEx, ↓qif0, ↓zchk_pos, ↓reduceIte, qput, qWW, qmW, qkW, qnW, K_37 hKb, i1, b3, q32 zr, if_pos (show 1000 < zm S 37 3 + n by omega), hd, Int.reduceEq]
        rfl
  · refine qUn_cn hH ⟨0, ?_, ?_, by decide⟩ fun m2 f H => qGo_x hH f H
    · by_cases c4 : n < 1
      · simp (config := { maxSteps := 2000000 }) (disch := first | omega | (simp only [qb_in, qkW, qmW, qnW, true_and, and_true, or_self, true_or, or_true, and_self]; done) | (simp only [qb_in, qkW, qmW, qnW, true_and, and_true, or_self, true_or, or_true, and_self]; omega)) only [zD_146, b146_0, b146_5, b146_11, b146_22, b146_34, b146_45, b146_54, b146_69, b146_77, qcall_l, qcall_r, qretn_l, qJ_s, qJ_n, qV0, qEx, ↓qif0, ↓zchk_pos, ↓reduceIte, qput, qWW, qmW, qkW, qnW, if_pos c4]
      · simp (config := { maxSteps := 2000000 }) (disch := first | omega | (simp only [qb_in, qkW, qmW, qnW, true_and, and_true, or_self, true_or, or_true, and_self]; done) | (simp only [qb_in, qkW, qmW, qnW, true_and, and_true, or_self, true_or, or_true, and_self]; omega)) only [zD_146, b146_0, b146_5, b146_11, b146_22, b146_34, b146_45, b146_54, b146_69, b146_77, qcall_l, qcall_r, qretn_l, qJ_s, qJ_n, qV0, qEx, ↓qif0, ↓zchk_pos, ↓reduceIte, qput, qWW, qmW, qkW, qnW, if_neg c4, if_pos (show 100 < n by omega)]
    · have i1 := r_in e n 1 100 (zbump S) (by omega)
      rw [qb_n c1] at i1
      have hd := r_refuse e S 1 (by omega) hK (by decide)
      simp (config := { maxSteps := 2000000 }) (disch := first | omega | (simp only [K_37 hKb, qb_in, qkW, qmW, qnW, true_and, and_true, or_self, true_or, or_true, and_self]; done) | (simp only [K_37 hKb, qb_in, qkW, qmW, qnW, true_and, and_true, or_self, true_or, or_true, and_self]; omega)) only [zD_300, b300_0, b300_8, b300_11, b300_15, b300_27, b300_31, b300_32, b300_35, b300_38, b300_40, b300_49, b300_71, b300_78, b300_86, b300_92, qcall_l, qcall_r, qretn_l, qJ_s, qJ_n, qV0, qEx, ↓qif0, ↓zchk_pos, ↓reduceIte, qput, qWW, qmW, qkW, qnW, K_37 hKb, i1, hd, Int.reduceEq]
      rfl
