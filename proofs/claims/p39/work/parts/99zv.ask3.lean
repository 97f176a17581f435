/-! What each call leaves; unknown words, sheets. -/
def qGo (S S2 : zS) : Prop := qHC S2 ∧ zc S2 ≤ zc S + 500 ∧ (zw S2 : Int) ≤ zw S + 2000 + 15000 * ((zm S2 37 16 + zm S2 37 65) - (zm S 37 16 + zm S 37 65))
theorem qGo_e {S : zS} (hH : qHC S) {m : Int → Int → Int} (f : qFx S m) : m 37 16 = zm S 37 16 ∧ m 37 65 = zm S 37 65 := ⟨qFx_37 hH.1.1.2.1.2.1 f 16 (by unfold qscf; omega) (by unfold qsxf; omega), qFx_37 hH.1.1.2.1.2.1 f 65 (by unfold qscf; omega) (by unfold qsxf; omega)⟩
theorem qGo_w {S : zS} {m : Int → Int → Int} (h : qHC (qW S m)) (e1 : m 37 16 = zm S 37 16) (e2 : m 37 65 = zm S 37 65) : qGo S (qW S m) := ⟨h, by rw [qcW]; omega, by rw [qwW, qmW, e1, e2]; omega⟩
theorem qGo_f {S : zS} (hH : qHC S) {m : Int → Int → Int} (f : qFx S m) (h : qHC (qW S m)) : qGo S (qW S m) := qGo_w h (qGo_e hH f).1 (qGo_e hH f).2
theorem qGo_x {S : zS} (hH : qHC S) {m : Int → Int → Int} (f : qFx S m) (h : qHC (qW S m)) : qGo S (zbump (qW S m)) := by
  obtain ⟨e1, e2⟩ := qGo_e hH f
  refine ⟨h, by show zc S + 1 ≤ zc S + 500; omega, ?_⟩
  show ((zw S + 6 : Nat) : Int) ≤ zw S + 2000 + 15000 * ((m 37 16 + m 37 65) - (zm S 37 16 + zm S 37 65))
  rw [e1, e2]
  omega
theorem quk_e {S : zS} {m : Int → Int → Int} {r b : Int} (hH : qHB S) (hb : 0 ≤ b ∧ b < zm S 37 16) (h8 : m 8 = zm S 8) (h49 : m 49 = zm S 49) (h54 : m 54 = zm S 54) (h91 : m 91 = zm S 91) (hy : ∀ x, 103 ≤ x → m x = zm S x) : quk m r b = quk (zm S) r b := by
  obtain ⟨⟨a1, a2, a3, a4, a5⟩, -⟩ := hH.1.2.2.2.2.1 b hb.1 hb.2
  obtain ⟨J, fL, fE, fA, fU, fM, P, ll, w0, -⟩ := hH.2 b hb.1 hb.2
  have hJ := w0.1.1
  unfold quk
  rw [h8, h49, h54, h91, hy (zm S 8 b + 1) (by omega), hJ]
  refine qnk_c _ _ fun i hi => ?_
  have w := w0.2.1 i (by omega)
  obtain ⟨⟨-, -, y1, y2⟩, -⟩ := qWw_b w.1
  rw [hy _ (by omega)]
theorem q_unknown (d : Nat) (S : zS) (r b : Int) (h : 15 ≤ d) (hH : qHC S) :
    qUn vi qid (qGo S) S (zD d 143 [vr 3, vi r, vi b] S) (zD d 293 [vr 37, vi r, vi b]) qpsF := by
  obtain ⟨⟨⟨⟨hK, hP, hL, hn⟩, ⟨hT, hC, hR, hk⟩, ⟨p1, p2, p3, p4, p5, p6⟩, hY⟩, hBB⟩, hYC, hFc⟩ := id hH
  by_cases c1 : 0 ≤ r ∧ r < zm S 37 76
  · obtain ⟨e, rfl, he⟩ := qd h
    have ro := s_readerOf_y e S r (by omega) hK hP p5.1 c1
    have kr := (p5.2.1 r c1.1 c1.2).1.1
    by_cases c2 : 0 ≤ b ∧ b < zm S 37 16
    · have bo := s_bookOf_y e S b (by omega) hK hP hY.1 c2
      have kb := (hY.2.1 b c2.1 c2.2).1.1
      have su := s_countUnknown e S r b (by omega) hH.1 c1 c2
      refine qUn_ck hH (quk (zm S) r b) ?_ (fun m1 k1 H1 => ?_) fun m2 f H => qGo_f hH f H
      · simp (config := { maxSteps := 2000000 }) (disch := first | omega | (simp only [K_3 hK, qb_in, qkW, qmW, qnW, true_and, and_true, or_self, true_or, or_true, and_self]; done) | (simp only [K_3 hK, qb_in, qkW, qmW, qnW, true_and, and_true, or_self, true_or, or_true, and_self]; omega)) only [zD_143, b143_0, b143_5, b143_10, b143_13, qcall_l, qcall_r, qretn_l, qJ_s, qJ_n, qV0, qEx, ↓qif0, ↓zchk_pos, ↓reduceIte, qput, qWW, qmW, qkW, qnW, K_3 hK, ro, bo, su]
      · have k37 : m1 37 = zm S 37 := k1 37 (by decide)
        have ir := r_isreader_y e (qW S m1) r (by omega) hK (by show 0 ≤ m1 37 76 ∧ m1 37 76 ≤ 6; rw [k37]; exact p5.1.2) (by show 0 ≤ r ∧ r < m1 37 76; rw [k37]; exact c1)
        have ib := r_isbook_y e (qW S m1) b (by omega) hK H1.1.2.2.1.2 (by show 0 ≤ b ∧ b < m1 37 16; rw [k37]; exact c2)
        have hd := r_hold0 e S m1 (by omega) hK
        have H2 := qHB_0 H1 0
        obtain ⟨m2, hm2⟩ : ∃ m2, qu m1 37 0 0 = m2 := ⟨_, rfl⟩
        have H2 : qHB1 (qW S (qu m1 37 0 0)) := H2
        rw [hm2] at hd H2
        have f2 : qF0 m1 m2 := by rw [← hm2]; exact qF0_u m1 0
        have n16 : m2 37 16 = zm S 37 16 := by rw [← hm2, qu_i _ _ _ _ _ (by decide), k37]
        have o2 : ∀ z, z ≠ 102 → z ≠ 37 → m2 z = zm S z := fun z h1 h2 => by rw [← hm2, qu_o _ _ _ _ _ h2, k1 z h1]
        obtain ⟨m3, r3, f3, H3, -⟩ := r_unknownTo e (qW S m2) r b (by omega) H2 ⟨c1.1, by have := p5.1.2; omega⟩ (by show 0 ≤ b ∧ b < m2 37 16; rw [n16]; exact c2)
        rw [show quk (zm (qW S m2)) r b = quk (zm S) r b from quk_e hH.1 c2 (o2 8 (by decide) (by decide)) (o2 49 (by decide) (by decide)) (o2 54 (by decide) (by decide)) (o2 91 (by decide) (by decide)) fun x hx => o2 x (by omega) (by omega)] at r3
        have h30 : m3 37 0 = 0 := by
          rw [show m3 37 0 = m2 37 0 from f3 37 0 (by unfold qfly; omega), ← hm2, qu_s]
        refine ⟨m3, ?_, qF0_t f2 (qF0_l f3), h30, H3⟩
        simp (config := { maxSteps := 2000000 }) (disch := first | omega | (simp only [K_37 hK, qb_in, qkW, qmW, qnW, true_and, and_true, or_self, true_or, or_true, and_self]; done) | (simp only [K_37 hK, qb_in, qkW, qmW, qnW, true_and, and_true, or_self, true_or, or_true, and_self]; omega)) only [zD_293, b293_0, b293_6, b293_9, b293_14, b293_17, b293_21, b293_22, b293_25, b293_28, b293_34, b293_37, b293_38, qcall_l, qcall_r, qretn_l, qJ_s, qJ_n, qV0, qEx, ↓qif0, ↓zchk_pos, ↓reduceIte, qput, qWW, qmW, qkW, qnW, K_37 hK, ir, ib, hd, r3, Int.reduceEq]
    · refine qUn_cn hH ⟨2, ?_, ?_, by decide⟩ fun m2 f H => qGo_x hH f H
      · have bo := s_bookOf_n e S b (by omega) hK hY.1 c2
        simp (config := { maxSteps := 2000000 }) (disch := first | omega | (simp only [K_3 hK, kr, qb_in, qkW, qmW, qnW, true_and, and_true, or_self, true_or, or_true, and_self]; done) | (simp only [K_3 hK, kr, qb_in, qkW, qmW, qnW, true_and, and_true, or_self, true_or, or_true, and_self]; omega)) only [zD_143, b143_0, b143_5, b143_10, b143_13, qcall_l, qcall_r, qretn_l, qJ_s, qJ_n, qV0, qEx, ↓qif0, ↓zchk_pos, ↓reduceIte, qput, qWW, qmW, qkW, qnW, K_3 hK, ro, bo, kr]
      · have hKb : qK (zbump S) := hK
        have ir := r_isreader_y e (zbump S) r (by omega) hK p5.1.2 c1
        have ib := r_isbook_n e S b (by omega) hK hY.1.2 c2
        have hd := r_refuse e S 1 (by omega) hK (by decide)
        simp (config := { maxSteps := 2000000 }) (disch := first | omega | (simp only [K_37 hKb, qb_in, qkW, qmW, qnW, true_and, and_true, or_self, true_or, or_true, and_self]; done) | (simp only [K_37 hKb, qb_in, qkW, qmW, qnW, true_and, and_true, or_self, true_or, or_true, and_self]; omega)) only [zD_293, b293_0, b293_6, b293_9, b293_14, b293_17, b293_21, b293_22, b293_25, b293_28, b293_34, b293_37, b293_38, qcall_l, qcall_r, qretn_l, qJ_s, qJ_n, qV0, qEx, ↓qif0, ↓zchk_pos, ↓reduceIte, qput, qWW, qmW, qkW, qnW, K_37 hKb, ir, ib, hd, Int.reduceEq]
        rfl
  · exact qUn_cn hH (q_unknown_n d S r b (by omega) hK p5.1 c1) fun m2 f H => qGo_x hH f H
theorem qst_r {S : zS} (hY : qYC S) : ∀ n : Nat, (n : Int) ≤ zm S 37 65 → 0 ≤ qst_ (zm S) n ∧ qst_ (zm S) n ≤ 121 * n := by
  intro n
  induction n with
  | zero => intro _; exact ⟨Int.le_refl _, Int.le_refl _⟩
  | succ n ih =>
    intro hn
    have i := ih (by omega)
    obtain ⟨b, x, y, w, t, P, ⟨a1, a2, -, -, -, a6⟩, ⟨b1, b2, b3, b4, b5, b6⟩, -⟩ := hY.2.1 n (by omega) (by omega)
    have hs : 0 ≤ qsh (zm S) (zm S 82 n) ∧ qsh (zm S) (zm S 82 n) ≤ 121 := by
      unfold qsh
      rw [a1, a2, a6]
      split <;> omega
    rw [qst_]
    omega
theorem q_sheets (d : Nat) (S : zS) (h : 3 ≤ d) (hH : qHC S) : qUn0 (qGo S) S (zD d 140 [vr 3] S) (zD d 288 [vr 37]) := by
  obtain ⟨e, rfl, he⟩ := qd h
  obtain ⟨⟨⟨⟨hK, hP, hL, hn⟩, ⟨hT, hC, hR, hk⟩, ⟨p1, p2, p3, p4, p5, p6⟩, hY⟩, hBB⟩, hYC, hFc⟩ := id hH
  obtain ⟨n1, n2⟩ := p4.1
  refine ⟨zm S 37 73, S, qW S (qu (zm S) 37 0 0), ?_, qKs_r S, ?_, qKs_w S _ (qu_o _ _ _ _ _ (by decide)), qGo_f hH (qFx_q (qFq_0 S 0)) (qHC_f hH (qFq_0 S 0))⟩
  · have lp : ∀ (g i : Nat), i + g = (zm S 37 65).toNat → zF_140 e 4 [vr 3, vi (qst_ (zm S) i), vi (i : Int)] [] S = some (.inl (some (vi (zm S 37 73))), S) := by
      intro g
      induction g with
      | zero =>
        intro i hi
        have hi2 : (i : Int) = zm S 37 65 := by omega
        rw [b140_4, hYC.2.2.1, ← hi, Nat.add_zero]
        simp (config := { maxSteps := 2000000 }) (disch := first | omega | (simp only [K_3 hK, qb_in, qkW, qmW, qnW, true_and, and_true, or_self, true_or, or_true, and_self]; done) | (simp only [K_3 hK, qb_in, qkW, qmW, qnW, true_and, and_true, or_self, true_or, or_true, and_self]; omega)) only [b140_0, b140_12, b140_22, b140_30, qcall_l, qcall_r, qretn_l, qJ_s, qJ_n, qV0, qEx, ↓qif0, ↓zchk_pos, ↓reduceIte, qput, qWW, qmW, qkW, qnW, K_3 hK, n1, if_neg (show ¬ (i : Int) < zm S 37 65 by omega)]
      | succ g ih =>
        intro i hi
        have hlt : (i : Int) < zm S 37 65 := by omega
        have r1 := ih (i + 1) (by omega)
        have sr := qst_r hYC i (by omega)
        have sr2 := qst_r hYC (i + 1) (by omega)
        rw [qst_] at r1 sr2
        obtain ⟨b, x, y, w, t, P, ⟨a1, a2, a3, -, -, a6⟩, ⟨b1, b2, b3, b4, b5, b6⟩, ⟨ky, -⟩, -⟩ := hYC.2.1 i (by omega) hlt
        have y1 := (p4.2.1 i (by omega) hlt).2.2.2.1
        rw [a1, a2, a3] at y1
        obtain ⟨⟨kx, -⟩, -, -, -, -, ⟨x5, v1, v2⟩, -⟩ := hY.2.1 b b1 b2
        rw [a2] at kx x5
        have sc : zD e 43 [vr y] S = some (.inl (some (vi (qsh (zm S) (zm S 82 i)))), S) := by
          obtain ⟨f, rfl, -⟩ := qd (show 1 ≤ e by omega)
          unfold qsh
          rw [a1, a2, a6]
          by_cases cb : zm S 53 b = 0
          · rw [if_pos cb]
            simp (config := { maxSteps := 2000000 }) (disch := first | omega | (simp only [ky, y1, kx, qb_in, qkW, qmW, qnW, true_and, and_true, or_self, true_or, or_true, and_self]; done) | (simp only [ky, y1, kx, qb_in, qkW, qmW, qnW, true_and, and_true, or_self, true_or, or_true, and_self]; omega)) only [zD_43, b43_0, b43_10, b43_24, b43_31, qcall_l, qcall_r, qretn_l, qJ_s, qJ_n, qV0, qEx, ↓qif0, ↓zchk_pos, ↓reduceIte, qput, qWW, qmW, qkW, qnW, ky, y1, kx, x5, cb, a6]
          · have z1 : z32 (P + 1) = P + 1 := q32 (by omega)
            have td : Int.tdiv (P + 1) 2 = (P + 1) / 2 := Int.tdiv_eq_ediv_of_nonneg (by omega)
            have z2 : z32 ((P + 1) / 2) = (P + 1) / 2 := q32 (by omega)
            rw [if_neg cb]
            simp (config := { maxSteps := 2000000 }) (disch := first | omega | (simp only [ky, y1, kx, qb_in, qkW, qmW, qnW, true_and, and_true, or_self, true_or, or_true, and_self]; done) | (simp only [ky, y1, kx, qb_in, qkW, qmW, qnW, true_and, and_true, or_self, true_or, or_true, and_self]; omega)) only [zD_43, b43_0, b43_10, b43_24, b43_31, qcall_l, qcall_r, qretn_l, qJ_s, qJ_n, qV0, qEx, ↓qif0, ↓zchk_pos, ↓reduceIte, qput, qWW, qmW, qkW, qnW, ky, y1, kx, x5, if_neg cb, a6, z1, td, z2, Int.reduceNe]
        have z3 : z32 (qst_ (zm S) i + qsh (zm S) (zm S 82 i)) = qst_ (zm S) i + qsh (zm S) (zm S 82 i) := q32 (by omega)
        rw [b140_4]
        simp (config := { maxSteps := 2000000 }) (disch := first | omega | (simp only [K_3 hK, K_13 hK, P_3_8 hP, a3, ky, qb_in, qkW, qmW, qnW, true_and, and_true, or_self, true_or, or_true, and_self]; done) | (simp only [K_3 hK, K_13 hK, P_3_8 hP, a3, ky, qb_in, qkW, qmW, qnW, true_and, and_true, or_self, true_or, or_true, and_self]; omega)) only [b140_0, b140_12, b140_22, b140_30, qcall_l, qcall_r, qretn_l, qJ_s, qJ_n, qV0, qEx, ↓qif0, ↓zchk_pos, ↓reduceIte, qput, qWW, qmW, qkW, qnW, K_3 hK, K_13 hK, P_3_8 hP, n1, if_pos hlt, a3, ky, sc, z3, z32_s i (by omega), r1]
    have r1 := lp (zm S 37 65).toNat 0 (by omega)
    have r1 : zF_140 e 4 [vr 3, vi 0, vi 0] [] S = _ := r1
    simp (config := { maxSteps := 2000000 }) (disch := first | omega | (simp only [qb_in, qkW, qmW, qnW, true_and, and_true, or_self, true_or, or_true, and_self]; done) | (simp only [qb_in, qkW, qmW, qnW, true_and, and_true, or_self, true_or, or_true, and_self]; omega)) only [zD_140, b140_0, b140_12, b140_22, b140_30, qcall_l, qcall_r, qretn_l, qJ_s, qJ_n, qV0, qEx, ↓qif0, ↓zchk_pos, ↓reduceIte, qput, qWW, qmW, qkW, qnW]
    exact r1
  · have e3 : qu (zm S) 37 0 0 37 73 = zm S 37 73 := qu_i _ _ _ _ _ (by decide)
    simp (config := { maxSteps := 2000000 }) (disch := first | omega | (simp only [K_37 hK, qb_in, qkW, qmW, qnW, true_and, and_true, or_self, true_or, or_true, and_self]; done) | (simp only [K_37 hK, qb_in, qkW, qmW, qnW, true_and, and_true, or_self, true_or, or_true, and_self]; omega)) only [zD_288, b288_0, qcall_l, qcall_r, qretn_l, qJ_s, qJ_n, qV0, qEx, ↓qif0, ↓zchk_pos, ↓reduceIte, qput, qWW, qmW, qkW, qnW, K_37 hK, e3]
