/-! What lies laid out is a book: the questions that lay one out, once more. -/
def q50 (S : zS) (m : Int → Int → Int) : Prop := m 37 50 = zm S 37 50 ∨ (0 ≤ m 37 50 ∧ m 37 50 < zm S 37 16)
def qG5 (S S2 : zS) : Prop := qGo S S2 ∧ q50 S (zm S2)
theorem q50_l {S : zS} {m : Int → Int → Int} {b : Int} (h : m 37 50 = b) (hb : 0 ≤ b ∧ b < zm S 37 16) : q50 S m := Or.inr (by rw [h]; exact hb)
theorem q50_z {S : zS} (v : Int) : q50 S (qu (zm S) 37 0 v) := Or.inl (qu_i _ _ _ _ _ (by decide))
theorem qUn_k5 {S : zS} {R : zR} {F : zS → zR} {ps : Nat → Int} (hH : qHC S) (v : Int) (hR : R = some (.inl (some (vi v)), S)) (hF : ∀ m1, (∀ z, z ≠ 102 → m1 z = zm S z) → qHB1 (qW S m1) → ∃ m3, F (qW S m1) = some (.inl (some (vi v)), qW S m3) ∧ qF0 m1 m3 ∧ m3 37 0 = 0 ∧ qHB1 (qW S m3) ∧ q50 S m3) : qUn vi qid (qG5 S) S R F ps := by
  have hC := hH.1.1.2.1.2.1
  refine Or.inl ⟨v, S, hR, ⟨rfl, fun _ _ => rfl⟩, ?_⟩
  obtain ⟨m1, hm1⟩ : ∃ m1, qu (zm S) 102 0 (qid v) = m1 := ⟨_, rfl⟩
  have hq1 : qo S (qid v) = qW S m1 := by rw [← hm1]; rfl
  have f1 : qFq S m1 := by rw [← hm1]; exact qFq_o (qFq_r S) _
  obtain ⟨m3, r, f3, h3, H3, h5⟩ := hF m1 (fun z hz => by rw [← hm1, qu_o _ _ _ _ _ hz]) (qHB1_f (qHB1_0 hH.1) f1)
  have f13 : qFzz S m3 := qFzz_t hC (qFzz_q hC f1) (qF0_z (S := qW S m1) f3)
  refine ⟨qW S m3, by rw [hq1]; exact r, ⟨qFx_lo hC f13.1 1 (by decide) (fun i => by unfold qscf; omega) (fun i => by unfold qsxf; omega), fun _ _ => rfl⟩, h3, ?_, qGo_f hH f13.1 (qHC_z hH f13 ⟨qH0_x hH.1.1 f13.1, H3.2⟩), h5⟩
  show m3 102 0 = _
  rw [f3 102 0 (by unfold qfly; omega), ← hm1, qu_s]
theorem qUn_x5 {S : zS} {R : zR} {F : zS → zR} {ps : Nat → Int} (hH : qHC S) (x : Nat) (hR : R = some (.inr x, zbump S)) (hx : ps x ≠ 0) (hF : ∃ m3, F (zbump S) = some (.inl (some (vi 0)), zbump (qW S m3)) ∧ qF0 (zm S) m3 ∧ m3 37 0 = ps x ∧ qHB1 (qW S m3) ∧ q50 S m3) : qUn vi qid (qG5 S) S R F ps := by
  have hC := hH.1.1.2.1.2.1
  obtain ⟨m3, r, f3, h3, H3, h5⟩ := hF
  have f := qF0_z f3
  exact Or.inr ⟨x, 0, zbump S, zbump (qW S m3), hR, ⟨rfl, fun _ _ => rfl⟩, r, ⟨qFx_lo hC f.1 1 (by decide) (fun i => by unfold qscf; omega) (fun i => by unfold qsxf; omega), fun _ _ => rfl⟩, h3, hx, qGo_x hH f.1 (qHC_z hH f ⟨qH0_x hH.1.1 f.1, H3.2⟩), h5⟩
theorem qUn_n5 {S : zS} {R : zR} {F : zS → zR} {ps : Nat → Int} {w : Int → Int} (hH : qHC S) (h : qNo ps S R F) : qUn vi w (qG5 S) S R F ps := qUn_no h fun p => ⟨qGo_x hH (qFx_q (qFq_0 S p)) (qHC_f hH (qFq_0 S p)), q50_z p⟩
theorem q_at5 (d : Nat) (S : zS) (b p l c : Int) (h : 15 ≤ d) (hH : qHC S) :
    qUn vi qid (qG5 S) S (zD d 135 [vr 3, vi b, vi p, vi l, vi c] S) (zD d 273 [vr 37, vi b, vi p, vi l, vi c]) qpsF := by
  obtain ⟨⟨⟨hK, hP, hL, hn⟩, ⟨hT, hC, hR, hk⟩, hPo, hY⟩, hBB⟩ := id hH.1
  by_cases c1 : 0 ≤ b ∧ b < zm S 37 16
  · obtain ⟨e, rfl, he⟩ := qd h
    have hs := hY.2.1 b c1.1 c1.2
    obtain ⟨⟨a1, a2, a3, a4, a5⟩, -, -, ⟨x3, wr⟩, ⟨x4, tr⟩, -, -, -, x8, -⟩ := id hs
    have bo := s_bookOf_y e S b (by omega) hK hP hY.1 c1
    obtain ⟨J, fL, fE, fA, fU, fM, P, ll, w0, -⟩ := hBB b c1.1 c1.2
    obtain ⟨Pr, x9, -⟩ := qB0_P w0 wr.1 tr
    have hbn : b < 4 := by have := hY.1.2; omega
    have cp := s_checkPlace e S (zm S 8 b) _ _ _ p l c (by omega) a1 x3 x4 x9
    by_cases c2 : (0 ≤ p ∧ p < P) ∧ (0 ≤ l ∧ l < zm S 52 b) ∧ (0 ≤ c ∧ c < zm S 51 b)
    · rw [if_pos c2] at cp
      have cc := s_cellAt e S (zm S 8 b) _ _ p l c (by omega) a1 a3 x3 x4 x8 wr tr (by omega) c2.2.1 c2.2.2
      obtain ⟨v, hv⟩ : ∃ v, zm S (zm S 8 b + 2) ((p * zm S 52 b + l) * zm S 51 b + c) = v := ⟨_, rfl⟩
      rw [hv] at cc
      refine qUn_k5 hH v ?_ (fun m1 k1 H1 => ?_)
      · simp (config := { maxSteps := 2000000 }) (disch := first | omega | (simp only [K_3 hK, a1, qb_in, qkW, qmW, qnW, true_and, and_true, or_self, true_or, or_true, and_self]; done) | (simp only [K_3 hK, a1, qb_in, qkW, qmW, qnW, true_and, and_true, or_self, true_or, or_true, and_self]; omega)) only [zD_135, b135_0, b135_5, b135_16, b135_25, qcall_l, qcall_r, qretn_l, qJ_s, qJ_n, qV0, qEx, ↓qif0, ↓zchk_pos, ↓reduceIte, qput, qWW, qmW, qkW, qnW, K_3 hK, bo, cp, a1, cc]
      · have k37 : m1 37 = zm S 37 := k1 37 (by decide)
        have hb1 : 0 ≤ b ∧ b < m1 37 16 := by rw [k37]; exact c1
        have ib := r_isbook_y e (qW S m1) b (by omega) hK H1.1.2.2.1.2 hb1
        obtain ⟨m2, r2, f2, H2, l2⟩ := r_isPlace e (qW S m1) b p l c (by omega) H1 hb1
        have e1 : ∀ z, z ≠ 102 → zm (qW S m1) z = zm S z := k1
        rw [e1 8 (by decide), e1 (zm S 8 b) (by omega), e1 51 (by decide), e1 52 (by decide), x9, qb_p c2] at r2
        have r2 : zD e 272 [vr 37, vi b, vi p, vi l, vi c] (qW S m1) = some (.inl (some (vi 1)), qW S m2) := r2
        have hd := r_hold0 e S m2 (by omega) hK
        have H3 := qHB_0 H2 0
        obtain ⟨m3, hm3⟩ : ∃ m3, qu m2 37 0 0 = m3 := ⟨_, rfl⟩
        have f3 : qF0 m1 m3 := by rw [← hm3]; exact qF0_t (qF0_l f2) (qF0_u m2 0)
        have n0 : m3 37 0 = 0 := by rw [← hm3, qu_s]
        have l3 : qLd (qW S m3) b := by
          obtain ⟨y1, y2⟩ := l2
          refine ⟨?_, ?_⟩
          · show m3 37 50 = b
            rw [← hm3, qu_i _ _ _ _ _ (by decide)]
            exact y1
          · show m3 37 51 = m3 54 b
            rw [← hm3, qu_i _ _ _ _ _ (by decide), qu_o _ _ _ _ _ (by decide)]
            exact y2
        have H3 : qHB1 (qW S (qu m2 37 0 0)) := H3
        rw [hm3] at hd H3
        obtain ⟨g1, g2, -, g4⟩ := qF0_b k1 f3
        have n16 : m3 37 16 = zm S 37 16 := g4 16 (by unfold qfly; omega)
        obtain ⟨J', gL, gE, gA, gU, gM, P', ll', v0, v1⟩ := qBB_l (H3.2 b c1.1 (by show b < m3 37 16; rw [n16]; exact c1.2)) l3
        have q8 : zm (qW S m3) 8 = zm S 8 := g1 8 (by decide) (by decide)
        have q51 : zm (qW S m3) 51 = zm S 51 := g1 51 (by decide) (by decide)
        have q52 : zm (qW S m3) 52 = zm S 52 := g1 52 (by decide) (by decide)
        have qx : zm (qW S m3) (zm S 8 b) = zm S (zm S 8 b) := g2 _ (by omega) (by omega)
        have qc : zm (qW S m3) (zm S 8 b + 2) = zm S (zm S 8 b + 2) := g2 _ (by omega) (by omega)
        rw [q8] at v0
        rw [q51, q52] at v0 v1
        obtain ⟨Pr', x9', zk'⟩ := qB0_P v0 wr.1 tr
        have hPP : P' = P := by rw [← x9', ← x9, qx]
        have ca := r_cellAt e (qW S m3) b (zm S 8 b) (zm S 51 b) (zm S 52 b) P' ll' _ _ p l c _ (by omega) hK H3.1.1.2.1 ⟨c1.1, hbn⟩ (by rw [q51]) (by rw [q52]) wr tr v1.1 v0.2.2 zk' (by have := v0.1.2.1; omega) (by have := v0.1.2.1; omega) (by rw [hPP]; exact c2.1) c2.2.1 c2.2.2
        rw [qc, hv] at ca
        refine ⟨m3, ?_, f3, n0, H3, q50_l l3.1 c1⟩
        simp (config := { maxSteps := 2000000 }) (disch := first | omega | (simp only [K_37 hK, qb_in, qkW, qmW, qnW, true_and, and_true, or_self, true_or, or_true, and_self]; done) | (simp only [K_37 hK, qb_in, qkW, qmW, qnW, true_and, and_true, or_self, true_or, or_true, and_self]; omega)) only [zD_273, b273_0, b273_6, b273_9, b273_18, b273_21, b273_25, b273_26, b273_29, b273_32, b273_34, b273_43, qcall_l, qcall_r, qretn_l, qJ_s, qJ_n, qV0, qEx, ↓qif0, ↓zchk_pos, ↓reduceIte, qput, qWW, qmW, qkW, qnW, K_37 hK, ib, r2, hd, ca, Int.reduceEq]
    · rw [if_neg c2] at cp
      refine qUn_x5 hH 2 ?_ (by decide) ?_
      · simp (config := { maxSteps := 2000000 }) (disch := first | omega | (simp only [K_3 hK, qb_in, qkW, qmW, qnW, true_and, and_true, or_self, true_or, or_true, and_self]; done) | (simp only [K_3 hK, qb_in, qkW, qmW, qnW, true_and, and_true, or_self, true_or, or_true, and_self]; omega)) only [zD_135, b135_0, b135_5, b135_16, b135_25, qcall_l, qcall_r, qretn_l, qJ_s, qJ_n, qV0, qEx, ↓qif0, ↓zchk_pos, ↓reduceIte, qput, qWW, qmW, qkW, qnW, K_3 hK, bo, cp]
      · have hKb : qK (zbump S) := hK
        have hHb : qHB1 (zbump S) := qHB1_0 hH.1
        have ib := r_isbook_y e (zbump S) b (by omega) hK hY.1.2 c1
        obtain ⟨m2, r2, f2, H2, l2⟩ := r_isPlace e (zbump S) b p l c (by omega) hHb c1
        rw [qb_n (show ¬ ((0 ≤ p ∧ p < zm (zbump S) (zm (zbump S) 8 b) 9) ∧ (0 ≤ l ∧ l < zm (zbump S) 52 b) ∧ (0 ≤ c ∧ c < zm (zbump S) 51 b)) from fun q => c2 ⟨⟨q.1.1, by have := q.1.2; rw [← x9]; exact this⟩, q.2⟩)] at r2
        have hd := r_holdn e (zbump S) m2 1 (by omega) hK (by decide)
        refine ⟨qu m2 37 0 1, ?_, qF0_t (qF0_l f2) (qF0_u m2 1), qu_s _ _ _ _, qHB_0 (S := S) H2 1, q50_l (b := b) (by rw [qu_i _ _ _ _ _ (by decide)]; exact l2.1) c1⟩
        simp (config := { maxSteps := 2000000 }) (disch := first | omega | (simp only [K_37 hKb, qb_in, qkW, qmW, qnW, true_and, and_true, or_self, true_or, or_true, and_self]; done) | (simp only [K_37 hKb, qb_in, qkW, qmW, qnW, true_and, and_true, or_self, true_or, or_true, and_self]; omega)) only [zD_273, b273_0, b273_6, b273_9, b273_18, b273_21, b273_25, b273_26, b273_29, b273_32, b273_34, b273_43, qcall_l, qcall_r, qretn_l, qJ_s, qJ_n, qV0, qEx, ↓qif0, ↓zchk_pos, ↓reduceIte, qput, qWW, qmW, qkW, qnW, K_37 hKb, ib, r2, hd, Int.reduceEq]
        rfl
  · exact qUn_n5 hH (q_at_n d S b p l c (by omega) hK hY.1 c1)
theorem q_word5 (d : Nat) (S : zS) (b j a : Int) (h : 15 ≤ d) (hH : qHC S) :
    qUn vi qid (qG5 S) S (zD d 133 [vr 3, vi b, vi j, vi a] S) (zD d 268 [vr 37, vi b, vi j, vi a]) qpsD := by
  obtain ⟨⟨⟨⟨hK, hP, hL, hn⟩, ⟨hT, hC, hR, hk⟩, hPo, hY⟩, hBB⟩, hYC, hFc⟩ := id hH
  by_cases c1 : 0 ≤ b ∧ b < zm S 37 16
  · obtain ⟨e, rfl, he⟩ := qd h
    obtain ⟨⟨a1, a2, a3, a4, a5⟩, -, -, ⟨x3, wr⟩, ⟨x4, tr⟩, -, x6, ⟨x7, n0, n80⟩, x8, -⟩ := hY.2.1 b c1.1 c1.2
    have bo := s_bookOf_y e S b (by omega) hK hP hY.1 c1
    have hKb : qK (zbump S) := hK
    have hbn : b < 4 := by have := hY.1.2; omega
    have p22 := P_37_22 hP
    have ibb := r_isbook_y e (zbump S) b (by omega) hKb hY.1.2 c1
    have z1 : z32 (zm S 54 b - 1) = zm S 54 b - 1 := q32 (by omega)
    have i1b := r_in e j 0 (zm S 54 b - 1) (zbump S) (by omega)
    by_cases c2 : 0 ≤ j ∧ j < zm S 54 b
    · rw [qb_p (show 0 ≤ j ∧ j ≤ zm S 54 b - 1 by omega)] at i1b
      obtain ⟨J, fL, fE, fA, fU, fM, P, ll, w0, -⟩ := hBB b c1.1 c1.2
      obtain ⟨w1, -⟩ := w0.2.1 j.toNat (by have := w0.1.1; omega)
      rw [show ((j.toNat : Nat) : Int) = j by omega] at w1
      obtain ⟨⟨⟨ky, -, -, ky3, -, -⟩, ⟨y0, -, y1, -, -⟩, y103, yn⟩, -⟩ := qWw_b w1
      clear w0 w1
      obtain ⟨y, hy⟩ : ∃ y, zm S (zm S 8 b + 1) j = y := ⟨_, rfl⟩
      rw [hy] at ky ky3 y0 y1 y103 yn
      by_cases c3 : 0 ≤ a ∧ a ≤ 7
      · -- the reference, up to its answer
        have ref : ∀ (m1 : Int → Int → Int), (∀ z, z ≠ 102 → m1 z = zm S z) → qHB1 (qW S m1) → ∃ m3, qF0 m1 m3 ∧ m3 37 0 = 0 ∧ (qHB1 (qW S m3) ∧ q50 S m3) ∧ zD (e + 1) 268 [vr 37, vi b, vi j, vi a] (qW S m1) = zF_268 e 69 [vr 37, vi b, vi j, vi a, vu, vu] [] (qW S m3) ∧ m3 52 b = zm S 52 b ∧ (m3 73 j = (zm S y 2) * (zm S 52 b - 1) + (zm S y 3 - 1) ∧ 0 ≤ zm S y 2 ∧ zm S y 2 < 1000 ∧ 0 ≤ zm S y 3 - 1 ∧ zm S y 3 - 1 < zm S 52 b - 1) ∧ m3 74 j = zm S y 4 ∧ m3 75 j = zm S y 5 ∧ m3 76 j = zm S (y + 3) 1 ∧ m3 78 j = zm S (y + 3) 3 ∧ m3 79 j = zm S (y + 3) 2 ∧ m3 80 j = zm S y 6 := by
          intro m1 k1 H1
          have k37 : m1 37 = zm S 37 := k1 37 (by decide)
          have hb1 : 0 ≤ b ∧ b < m1 37 16 := by rw [k37]; exact c1
          have ib := r_isbook_y e (qW S m1) b (by omega) hK H1.1.2.2.1.2 hb1
          have e54 : m1 54 = zm S 54 := k1 54 (by decide)
          have q22 : m1 37 22 = 54 := by rw [k37, p22]
          have i1 := r_in e j 0 (zm S 54 b - 1) (qW S m1) (by omega)
          rw [qb_p (show 0 ≤ j ∧ j ≤ zm S 54 b - 1 by omega)] at i1
          have i2 := r_in e a 0 7 (qW S m1) (by omega)
          rw [qb_p c3] at i2
          have hd := r_hold0 e S m1 (by omega) hK
          have H2 := qHB_0 H1 0
          obtain ⟨m2, hm2⟩ : ∃ m2, qu m1 37 0 0 = m2 := ⟨_, rfl⟩
          have H2 : qHB1 (qW S (qu m1 37 0 0)) := H2
          rw [hm2] at hd H2
          have f2 : qF0 m1 m2 := by rw [← hm2]; exact qF0_u m1 0
          have n16 : m2 37 16 = zm S 37 16 := by rw [← hm2, qu_i _ _ _ _ _ (by decide), k37]
          obtain ⟨m3, r3, f3, l3, H3⟩ := q_lays e (qW S m2) b (by omega) H2.1 H2.2 (by show 0 ≤ b ∧ b < m2 37 16; rw [n16]; exact c1)
          have f13 : qF0 m1 m3 := qF0_t f2 (qF0_l f3)
          have h30 : m3 37 0 = 0 := by
            rw [show m3 37 0 = m2 37 0 from f3 37 0 (by unfold qfly; omega), ← hm2, qu_s]
          obtain ⟨g1, g2, -, g4⟩ := qF0_b k1 f13
          have m16 : m3 37 16 = zm S 37 16 := g4 16 (by unfold qfly; omega)
          have H3' : qHB1 (qW S m3) := ⟨qH1_x (S := qW S m2) H2.1 (qFly_x (S := qW S m2) f3), fun b' b1 b2 => H3 b' b1 (by show b' < m2 37 16; rw [n16]; have b2 : b' < m3 37 16 := b2; rw [m16] at b2; exact b2)⟩
          obtain ⟨J', gL, gE, gA, gU, gM, P', ll', v0, v1⟩ := qBB_l (H3'.2 b c1.1 (by show b < m3 37 16; rw [m16]; exact c1.2)) l3
          have q8 : zm (qW S m3) 8 = zm S 8 := g1 8 (by decide) (by decide)
          have q51 : zm (qW S m3) 51 = zm S 51 := g1 51 (by decide) (by decide)
          have q52 : zm (qW S m3) 52 = zm S 52 := g1 52 (by decide) (by decide)
          have q54 : zm (qW S m3) 54 = zm S 54 := g1 54 (by decide) (by decide)
          have qx1 : zm (qW S m3) (zm S 8 b + 1) = zm S (zm S 8 b + 1) := g2 _ (by omega) (by omega)
          have qy : zm (qW S m3) y = zm S y := g2 _ (by omega) (by omega)
          have qy3 : zm (qW S m3) (y + 3) = zm S (y + 3) := g2 _ (by omega) (by omega)
          rw [q8] at v0
          rw [q51, q52] at v0 v1
          have hJ := v0.1.1
          rw [q54] at hJ
          have J80 := v0.1.2.1
          obtain ⟨u1, u2⟩ := v0.2.1 j.toNat (by omega)
          have u3 := v1.2.1 j.toNat (by omega)
          have zkj := (qZn_f (t := zm S 52 b) wr.1 (qB_J v0) v0.1.2.2 j.toNat (by omega)).1
          rw [show ((j.toNat : Nat) : Int) = j by omega] at u1 u2 u3 zkj
          rw [qx1, hy] at u1 u2
          have u4 := (qWw_b u1).2
          obtain ⟨pp, l, ⟨t1, t2, t3, t4⟩, t5, t6, t7, t8, t9⟩ := u2
          obtain ⟨s1, s2, s3, s4, s5, s6, s7, s8⟩ := u3
          obtain ⟨-, -, o1, o2, o3, -⟩ := u4
          rw [qy] at t5 t6 t7 t8 t9
          rw [qy3] at o1 o2 o3
          have pb : pp < 1000 := by
            have zf := (qZ0_f (t := zm S 52 b) zkj wr.1 (qB_J v0 j.toNat (by omega)) (qZn_0 (t := zm S 52 b) wr.1 (qB_J v0) v0.1.2.2 j.toNat (by omega))).1.1.2
            have zf : (qZp (zm S 51 b) (zm S 52 b) gL gE gA j.toNat).1.1 ≤ if qlp (gL j.toNat) (gE j.toNat) (qZp (zm S 51 b) (zm S 52 b) gL gE gA j.toNat).2 < (gL j.toNat).length then 3 * j else 3 * j + 3 := zf
            have m1 : (pp - 1) * 1 ≤ (pp - 1) * (zm S 52 b - 1) := Int.mul_le_mul_of_nonneg_left (by omega) (by omega)
            split at zf <;> omega
          refine ⟨m3, f13, h30, ⟨H3', q50_l l3.1 c1⟩, ?_, congrFun q52 b, ⟨by rw [t5, t6]; exact s1.trans (by omega), by omega, by omega, by omega, by omega⟩, by rw [t7]; exact s2, by rw [t8]; exact s3, by rw [o1]; exact s4, by rw [o3]; exact s6, by rw [o2]; exact s7, by rw [t9]; exact s8⟩
          simp (config := { maxSteps := 2000000 }) (disch := first | omega | (simp only [K_37 hK, K_54 hK, q22, qb_in, qkW, qmW, qnW, true_and, and_true, or_self, true_or, or_true, and_self]; done) | (simp only [K_37 hK, K_54 hK, q22, qb_in, qkW, qmW, qnW, true_and, and_true, or_self, true_or, or_true, and_self]; omega)) only [zD_268, b268_0, b268_5, b268_8, b268_21, b268_24, b268_28, b268_29, b268_37, b268_41, b268_48, b268_51, b268_55, b268_56, b268_59, b268_62, b268_64, b268_84, b268_88, b268_97, b268_102, b268_111, b268_115, b268_119, b268_124, b268_136, b268_147, b268_148, b268_153, b268_162, b268_167, b268_176, b268_182, b268_191, b268_197, qcall_l, qcall_r, qretn_l, qJ_s, qJ_n, qV0, qEx, ↓qif0, ↓zchk_pos, ↓reduceIte, qput, qWW, qmW, qkW, qnW, K_37 hK, K_54 hK, ib, q22, e54, z1, i1, i2, hd, r3, Int.reduceEq]
        have hcase : a = 0 ∨ a = 1 ∨ a = 2 ∨ a = 3 ∨ a = 4 ∨ a = 5 ∨ a = 6 ∨ a = 7 := by omega
        have mk01 : zm S (y + 3) 2 = 0 ∨ zm S (y + 3) 2 = 1 := by
          obtain ⟨J, fL, fE, fA, fU, fM, P, ll, w0, -⟩ := hBB b c1.1 c1.2
          obtain ⟨w1, -⟩ := w0.2.1 j.toNat (by have := w0.1.1; omega)
          rw [show ((j.toNat : Nat) : Int) = j by omega, hy] at w1
          obtain ⟨-, -, -, o2, -⟩ := (qWw_b w1).2
          obtain ⟨W, dg, st, bg, mk, c, N, g, T, p, ⟨-, -, -, -, -, -, hM, -⟩, -⟩ := w1
          rw [o2, hM]
          have := qwM_r (T := T) (N := N) (g := g) (P := p) (dg := dg) (W := W)
          omega
        rcases hcase with rfl | rfl | rfl | rfl | rfl | rfl | rfl | rfl
        · refine qUn_k5 hH (zm S (y + 3) 1) ?_ (fun m1 k1 H1 => ?_)
          · simp (config := { maxSteps := 2000000 }) (disch := first | omega | (simp only [K_3 hK, a1, a2, x6, ky, y1, ky3, qb_in, qkW, qmW, qnW, true_and, and_true, or_self, true_or, or_true, and_self]; done) | (simp only [K_3 hK, a1, a2, x6, ky, y1, ky3, qb_in, qkW, qmW, qnW, true_and, and_true, or_self, true_or, or_true, and_self]; omega)) only [zD_133, b133_0, b133_5, b133_11, b133_20, b133_31, b133_88, b133_97, b133_108, b133_112, b133_113, b133_114, b133_120, b133_126, b133_132, b133_138, b133_144, b133_153, i133, w133_41, qcall_l, qcall_r, qretn_l, qJ_s, qJ_n, qV0, qEx, ↓qif0, ↓zchk_pos, ↓reduceIte, qput, qWW, qmW, qkW, qnW, K_3 hK, bo, if_neg (show ¬ j < 0 by omega), a1, a2, x6, x7, if_pos c2.2, hy, w133_41, Int.reduceEq, ky, y1, ky3]
          · obtain ⟨m3, f13, h30, H3, r, n52, ⟨n73, dv⟩, n74, n75, n76, n78, n79, n80_⟩ := ref m1 k1 H1
            refine ⟨m3, ?_, f13, h30, H3⟩
            have p20 : m3 37 20 = 52 := P_37_20 H3.1.1.1.2.1
            have pp : m3 37 58 = 76 := P_37_58 H3.1.1.1.2.1
            have z2 : z32 (zm S 52 b - 1) = zm S 52 b - 1 := q32 (by omega)
            rw [r, b268_69]
            simp (config := { maxSteps := 2000000 }) (disch := first | omega | (simp only [K_37 hK, K_52 hK, K_76 hK, p20, pp, qb_in, qkW, qmW, qnW, true_and, and_true, or_self, true_or, or_true, and_self]; done) | (simp only [K_37 hK, K_52 hK, K_76 hK, p20, pp, qb_in, qkW, qmW, qnW, true_and, and_true, or_self, true_or, or_true, and_self]; omega)) only [b268_0, b268_5, b268_8, b268_21, b268_24, b268_28, b268_29, b268_37, b268_41, b268_48, b268_51, b268_55, b268_56, b268_59, b268_62, b268_64, b268_69, b268_84, b268_88, b268_97, b268_102, b268_111, b268_115, b268_119, b268_124, b268_136, b268_147, b268_148, b268_153, b268_162, b268_167, b268_176, b268_182, b268_191, b268_197, qcall_l, qcall_r, qretn_l, qJ_s, qJ_n, qV0, qEx, ↓qif0, ↓zchk_pos, ↓reduceIte, qput, qWW, qmW, qkW, qnW, K_37 hK, K_52 hK, K_76 hK, p20, pp, n52, z2, Int.reduceLT, Int.reduceEq, n76]
        · refine qUn_k5 hH (if zm S (y + 3) 2 = 0 then 0 else 1) ?_ (fun m1 k1 H1 => ?_)
          · rcases mk01 with q | q
            · rw [if_pos q]
              simp (config := { maxSteps := 2000000 }) (disch := first | omega | (simp only [K_3 hK, a1, a2, x6, ky, y1, ky3, qb_in, qkW, qmW, qnW, true_and, and_true, or_self, true_or, or_true, and_self]; done) | (simp only [K_3 hK, a1, a2, x6, ky, y1, ky3, qb_in, qkW, qmW, qnW, true_and, and_true, or_self, true_or, or_true, and_self]; omega)) only [zD_133, b133_0, b133_5, b133_11, b133_20, b133_31, b133_88, b133_97, b133_108, b133_112, b133_113, b133_114, b133_120, b133_126, b133_132, b133_138, b133_144, b133_153, i133, w133_41, qcall_l, qcall_r, qretn_l, qJ_s, qJ_n, qV0, qEx, ↓qif0, ↓zchk_pos, ↓reduceIte, qput, qWW, qmW, qkW, qnW, K_3 hK, bo, if_neg (show ¬ j < 0 by omega), a1, a2, x6, x7, if_pos c2.2, hy, w133_41, Int.reduceEq, ky, y1, ky3, q]
            · rw [if_neg (show ¬ zm S (y + 3) 2 = 0 by omega)]
              simp (config := { maxSteps := 2000000 }) (disch := first | omega | (simp only [K_3 hK, a1, a2, x6, ky, y1, ky3, qb_in, qkW, qmW, qnW, true_and, and_true, or_self, true_or, or_true, and_self]; done) | (simp only [K_3 hK, a1, a2, x6, ky, y1, ky3, qb_in, qkW, qmW, qnW, true_and, and_true, or_self, true_or, or_true, and_self]; omega)) only [zD_133, b133_0, b133_5, b133_11, b133_20, b133_31, b133_88, b133_97, b133_108, b133_112, b133_113, b133_114, b133_120, b133_126, b133_132, b133_138, b133_144, b133_153, i133, w133_41, qcall_l, qcall_r, qretn_l, qJ_s, qJ_n, qV0, qEx, ↓qif0, ↓zchk_pos, ↓reduceIte, qput, qWW, qmW, qkW, qnW, K_3 hK, bo, if_neg (show ¬ j < 0 by omega), a1, a2, x6, x7, if_pos c2.2, hy, w133_41, Int.reduceEq, ky, y1, ky3, q]
          · obtain ⟨m3, f13, h30, H3, r, n52, ⟨n73, dv⟩, n74, n75, n76, n78, n79, n80_⟩ := ref m1 k1 H1
            refine ⟨m3, ?_, f13, h30, H3⟩
            have p20 : m3 37 20 = 52 := P_37_20 H3.1.1.1.2.1
            have pp : m3 37 61 = 79 := P_37_61 H3.1.1.1.2.1
            have z2 : z32 (zm S 52 b - 1) = zm S 52 b - 1 := q32 (by omega)
            rw [r, b268_69]
            rcases mk01 with q | q
            · rw [if_pos q]
              simp (config := { maxSteps := 2000000 }) (disch := first | omega | (simp only [K_37 hK, K_52 hK, K_79 hK, p20, pp, qb_in, qkW, qmW, qnW, true_and, and_true, or_self, true_or, or_true, and_self]; done) | (simp only [K_37 hK, K_52 hK, K_79 hK, p20, pp, qb_in, qkW, qmW, qnW, true_and, and_true, or_self, true_or, or_true, and_self]; omega)) only [b268_0, b268_5, b268_8, b268_21, b268_24, b268_28, b268_29, b268_37, b268_41, b268_48, b268_51, b268_55, b268_56, b268_59, b268_62, b268_64, b268_69, b268_84, b268_88, b268_97, b268_102, b268_111, b268_115, b268_119, b268_124, b268_136, b268_147, b268_148, b268_153, b268_162, b268_167, b268_176, b268_182, b268_191, b268_197, qcall_l, qcall_r, qretn_l, qJ_s, qJ_n, qV0, qEx, ↓qif0, ↓zchk_pos, ↓reduceIte, qput, qWW, qmW, qkW, qnW, K_37 hK, K_52 hK, K_79 hK, p20, pp, n52, z2, Int.reduceLT, Int.reduceEq, n79, q]
            · rw [if_neg (show ¬ zm S (y + 3) 2 = 0 by omega)]
              simp (config := { maxSteps := 2000000 }) (disch := first | omega | (simp only [K_37 hK, K_52 hK, K_79 hK, p20, pp, qb_in, qkW, qmW, qnW, true_and, and_true, or_self, true_or, or_true, and_self]; done) | (simp only [K_37 hK, K_52 hK, K_79 hK, p20, pp, qb_in, qkW, qmW, qnW, true_and, and_true, or_self, true_or, or_true, and_self]; omega)) only [b268_0, b268_5, b268_8, b268_21, b268_24, b268_28, b268_29, b268_37, b268_41, b268_48, b268_51, b268_55, b268_56, b268_59, b268_62, b268_64, b268_69, b268_84, b268_88, b268_97, b268_102, b268_111, b268_115, b268_119, b268_124, b268_136, b268_147, b268_148, b268_153, b268_162, b268_167, b268_176, b268_182, b268_191, b268_197, qcall_l, qcall_r, qretn_l, qJ_s, qJ_n, qV0, qEx, ↓qif0, ↓zchk_pos, ↓reduceIte, qput, qWW, qmW, qkW, qnW, K_37 hK, K_52 hK, K_79 hK, p20, pp, n52, z2, Int.reduceLT, Int.reduceEq, n79, q]
        · refine qUn_k5 hH (zm S y 2) ?_ (fun m1 k1 H1 => ?_)
          · simp (config := { maxSteps := 2000000 }) (disch := first | omega | (simp only [K_3 hK, a1, a2, x6, ky, y1, ky3, qb_in, qkW, qmW, qnW, true_and, and_true, or_self, true_or, or_true, and_self]; done) | (simp only [K_3 hK, a1, a2, x6, ky, y1, ky3, qb_in, qkW, qmW, qnW, true_and, and_true, or_self, true_or, or_true, and_self]; omega)) only [zD_133, b133_0, b133_5, b133_11, b133_20, b133_31, b133_88, b133_97, b133_108, b133_112, b133_113, b133_114, b133_120, b133_126, b133_132, b133_138, b133_144, b133_153, i133, w133_41, qcall_l, qcall_r, qretn_l, qJ_s, qJ_n, qV0, qEx, ↓qif0, ↓zchk_pos, ↓reduceIte, qput, qWW, qmW, qkW, qnW, K_3 hK, bo, if_neg (show ¬ j < 0 by omega), a1, a2, x6, x7, if_pos c2.2, hy, w133_41, Int.reduceEq, ky, y1, ky3]
          · obtain ⟨m3, f13, h30, H3, r, n52, ⟨n73, dv⟩, n74, n75, n76, n78, n79, n80_⟩ := ref m1 k1 H1
            refine ⟨m3, ?_, f13, h30, H3⟩
            have p20 : m3 37 20 = 52 := P_37_20 H3.1.1.1.2.1
            have pp : m3 37 55 = 73 := P_37_55 H3.1.1.1.2.1
            have z2 : z32 (zm S 52 b - 1) = zm S 52 b - 1 := q32 (by omega)
            rw [r, b268_69]
            have td : Int.tdiv (zm S y 2 * (zm S 52 b - 1) + (zm S y 3 - 1)) (zm S 52 b - 1) = zm S y 2 := by
              rw [Int.tdiv_eq_ediv_of_nonneg (by have := Int.mul_nonneg dv.1 (show 0 ≤ zm S 52 b - 1 by omega); omega)]
              exact (qdmod ⟨dv.2.2.1, dv.2.2.2⟩).2
            have z3 : z32 (zm S y 2) = zm S y 2 := q32 (by omega)
            simp (config := { maxSteps := 2000000 }) (disch := first | omega | (simp only [K_37 hK, K_52 hK, K_73 hK, p20, pp, qb_in, qkW, qmW, qnW, true_and, and_true, or_self, true_or, or_true, and_self]; done) | (simp only [K_37 hK, K_52 hK, K_73 hK, p20, pp, qb_in, qkW, qmW, qnW, true_and, and_true, or_self, true_or, or_true, and_self]; omega)) only [b268_0, b268_5, b268_8, b268_21, b268_24, b268_28, b268_29, b268_37, b268_41, b268_48, b268_51, b268_55, b268_56, b268_59, b268_62, b268_64, b268_69, b268_84, b268_88, b268_97, b268_102, b268_111, b268_115, b268_119, b268_124, b268_136, b268_147, b268_148, b268_153, b268_162, b268_167, b268_176, b268_182, b268_191, b268_197, qcall_l, qcall_r, qretn_l, qJ_s, qJ_n, qV0, qEx, ↓qif0, ↓zchk_pos, ↓reduceIte, qput, qWW, qmW, qkW, qnW, K_37 hK, K_52 hK, K_73 hK, p20, pp, n52, z2, Int.reduceLT, Int.reduceEq, n73, td, z3]
        · refine qUn_k5 hH (zm S y 3) ?_ (fun m1 k1 H1 => ?_)
          · simp (config := { maxSteps := 2000000 }) (disch := first | omega | (simp only [K_3 hK, a1, a2, x6, ky, y1, ky3, qb_in, qkW, qmW, qnW, true_and, and_true, or_self, true_or, or_true, and_self]; done) | (simp only [K_3 hK, a1, a2, x6, ky, y1, ky3, qb_in, qkW, qmW, qnW, true_and, and_true, or_self, true_or, or_true, and_self]; omega)) only [zD_133, b133_0, b133_5, b133_11, b133_20, b133_31, b133_88, b133_97, b133_108, b133_112, b133_113, b133_114, b133_120, b133_126, b133_132, b133_138, b133_144, b133_153, i133, w133_41, qcall_l, qcall_r, qretn_l, qJ_s, qJ_n, qV0, qEx, ↓qif0, ↓zchk_pos, ↓reduceIte, qput, qWW, qmW, qkW, qnW, K_3 hK, bo, if_neg (show ¬ j < 0 by omega), a1, a2, x6, x7, if_pos c2.2, hy, w133_41, Int.reduceEq, ky, y1, ky3]
          · obtain ⟨m3, f13, h30, H3, r, n52, ⟨n73, dv⟩, n74, n75, n76, n78, n79, n80_⟩ := ref m1 k1 H1
            refine ⟨m3, ?_, f13, h30, H3⟩
            have p20 : m3 37 20 = 52 := P_37_20 H3.1.1.1.2.1
            have pp : m3 37 55 = 73 := P_37_55 H3.1.1.1.2.1
            have z2 : z32 (zm S 52 b - 1) = zm S 52 b - 1 := q32 (by omega)
            rw [r, b268_69]
            have td : Int.tmod (zm S y 2 * (zm S 52 b - 1) + (zm S y 3 - 1)) (zm S 52 b - 1) = zm S y 3 - 1 := by
              rw [Int.tmod_eq_emod_of_nonneg (by have := Int.mul_nonneg dv.1 (show 0 ≤ zm S 52 b - 1 by omega); omega)]
              exact (qdmod ⟨dv.2.2.1, dv.2.2.2⟩).1
            have z3 : z32 (1 + (zm S y 3 - 1)) = zm S y 3 := by rw [q32 (by omega)]; omega
            simp (config := { maxSteps := 2000000 }) (disch := first | omega | (simp only [K_37 hK, K_52 hK, K_73 hK, p20, pp, qb_in, qkW, qmW, qnW, true_and, and_true, or_self, true_or, or_true, and_self]; done) | (simp only [K_37 hK, K_52 hK, K_73 hK, p20, pp, qb_in, qkW, qmW, qnW, true_and, and_true, or_self, true_or, or_true, and_self]; omega)) only [b268_0, b268_5, b268_8, b268_21, b268_24, b268_28, b268_29, b268_37, b268_41, b268_48, b268_51, b268_55, b268_56, b268_59, b268_62, b268_64, b268_69, b268_84, b268_88, b268_97, b268_102, b268_111, b268_115, b268_119, b268_124, b268_136, b268_147, b268_148, b268_153, b268_162, b268_167, b268_176, b268_182, b268_191, b268_197, qcall_l, qcall_r, qretn_l, qJ_s, qJ_n, qV0, qEx, ↓qif0, ↓zchk_pos, ↓reduceIte, qput, qWW, qmW, qkW, qnW, K_37 hK, K_52 hK, K_73 hK, p20, pp, n52, z2, Int.reduceLT, Int.reduceEq, n73, td, z3]
        · refine qUn_k5 hH (zm S y 4) ?_ (fun m1 k1 H1 => ?_)
          · simp (config := { maxSteps := 2000000 }) (disch := first | omega | (simp only [K_3 hK, a1, a2, x6, ky, y1, ky3, qb_in, qkW, qmW, qnW, true_and, and_true, or_self, true_or, or_true, and_self]; done) | (simp only [K_3 hK, a1, a2, x6, ky, y1, ky3, qb_in, qkW, qmW, qnW, true_and, and_true, or_self, true_or, or_true, and_self]; omega)) only [zD_133, b133_0, b133_5, b133_11, b133_20, b133_31, b133_88, b133_97, b133_108, b133_112, b133_113, b133_114, b133_120, b133_126, b133_132, b133_138, b133_144, b133_153, i133, w133_41, qcall_l, qcall_r, qretn_l, qJ_s, qJ_n, qV0, qEx, ↓qif0, ↓zchk_pos, ↓reduceIte, qput, qWW, qmW, qkW, qnW, K_3 hK, bo, if_neg (show ¬ j < 0 by omega), a1, a2, x6, x7, if_pos c2.2, hy, w133_41, Int.reduceEq, ky, y1, ky3]
          · obtain ⟨m3, f13, h30, H3, r, n52, ⟨n73, dv⟩, n74, n75, n76, n78, n79, n80_⟩ := ref m1 k1 H1
            refine ⟨m3, ?_, f13, h30, H3⟩
            have p20 : m3 37 20 = 52 := P_37_20 H3.1.1.1.2.1
            have pp : m3 37 56 = 74 := P_37_56 H3.1.1.1.2.1
            have z2 : z32 (zm S 52 b - 1) = zm S 52 b - 1 := q32 (by omega)
            rw [r, b268_69]
            simp (config := { maxSteps := 2000000 }) (disch := first | omega | (simp only [K_37 hK, K_52 hK, K_74 hK, p20, pp, qb_in, qkW, qmW, qnW, true_and, and_true, or_self, true_or, or_true, and_self]; done) | (simp only [K_37 hK, K_52 hK, K_74 hK, p20, pp, qb_in, qkW, qmW, qnW, true_and, and_true, or_self, true_or, or_true, and_self]; omega)) only [b268_0, b268_5, b268_8, b268_21, b268_24, b268_28, b268_29, b268_37, b268_41, b268_48, b268_51, b268_55, b268_56, b268_59, b268_62, b268_64, b268_69, b268_84, b268_88, b268_97, b268_102, b268_111, b268_115, b268_119, b268_124, b268_136, b268_147, b268_148, b268_153, b268_162, b268_167, b268_176, b268_182, b268_191, b268_197, qcall_l, qcall_r, qretn_l, qJ_s, qJ_n, qV0, qEx, ↓qif0, ↓zchk_pos, ↓reduceIte, qput, qWW, qmW, qkW, qnW, K_37 hK, K_52 hK, K_74 hK, p20, pp, n52, z2, Int.reduceLT, Int.reduceEq, n74]
        · refine qUn_k5 hH (zm S y 5) ?_ (fun m1 k1 H1 => ?_)
          · simp (config := { maxSteps := 2000000 }) (disch := first | omega | (simp only [K_3 hK, a1, a2, x6, ky, y1, ky3, qb_in, qkW, qmW, qnW, true_and, and_true, or_self, true_or, or_true, and_self]; done) | (simp only [K_3 hK, a1, a2, x6, ky, y1, ky3, qb_in, qkW, qmW, qnW, true_and, and_true, or_self, true_or, or_true, and_self]; omega)) only [zD_133, b133_0, b133_5, b133_11, b133_20, b133_31, b133_88, b133_97, b133_108, b133_112, b133_113, b133_114, b133_120, b133_126, b133_132, b133_138, b133_144, b133_153, i133, w133_41, qcall_l, qcall_r, qretn_l, qJ_s, qJ_n, qV0, qEx, ↓qif0, ↓zchk_pos, ↓reduceIte, qput, qWW, qmW, qkW, qnW, K_3 hK, bo, if_neg (show ¬ j < 0 by omega), a1, a2, x6, x7, if_pos c2.2, hy, w133_41, Int.reduceEq, ky, y1, ky3]
          · obtain ⟨m3, f13, h30, H3, r, n52, ⟨n73, dv⟩, n74, n75, n76, n78, n79, n80_⟩ := ref m1 k1 H1
            refine ⟨m3, ?_, f13, h30, H3⟩
            have p20 : m3 37 20 = 52 := P_37_20 H3.1.1.1.2.1
            have pp : m3 37 57 = 75 := P_37_57 H3.1.1.1.2.1
            have z2 : z32 (zm S 52 b - 1) = zm S 52 b - 1 := q32 (by omega)
            rw [r, b268_69]
            simp (config := { maxSteps := 2000000 }) (disch := first | omega | (simp only [K_37 hK, K_52 hK, K_75 hK, p20, pp, qb_in, qkW, qmW, qnW, true_and, and_true, or_self, true_or, or_true, and_self]; done) | (simp only [K_37 hK, K_52 hK, K_75 hK, p20, pp, qb_in, qkW, qmW, qnW, true_and, and_true, or_self, true_or, or_true, and_self]; omega)) only [b268_0, b268_5, b268_8, b268_21, b268_24, b268_28, b268_29, b268_37, b268_41, b268_48, b268_51, b268_55, b268_56, b268_59, b268_62, b268_64, b268_69, b268_84, b268_88, b268_97, b268_102, b268_111, b268_115, b268_119, b268_124, b268_136, b268_147, b268_148, b268_153, b268_162, b268_167, b268_176, b268_182, b268_191, b268_197, qcall_l, qcall_r, qretn_l, qJ_s, qJ_n, qV0, qEx, ↓qif0, ↓zchk_pos, ↓reduceIte, qput, qWW, qmW, qkW, qnW, K_37 hK, K_52 hK, K_75 hK, p20, pp, n52, z2, Int.reduceLT, Int.reduceEq, n75]
        · refine qUn_k5 hH (zm S y 6) ?_ (fun m1 k1 H1 => ?_)
          · simp (config := { maxSteps := 2000000 }) (disch := first | omega | (simp only [K_3 hK, a1, a2, x6, ky, y1, ky3, qb_in, qkW, qmW, qnW, true_and, and_true, or_self, true_or, or_true, and_self]; done) | (simp only [K_3 hK, a1, a2, x6, ky, y1, ky3, qb_in, qkW, qmW, qnW, true_and, and_true, or_self, true_or, or_true, and_self]; omega)) only [zD_133, b133_0, b133_5, b133_11, b133_20, b133_31, b133_88, b133_97, b133_108, b133_112, b133_113, b133_114, b133_120, b133_126, b133_132, b133_138, b133_144, b133_153, i133, w133_41, qcall_l, qcall_r, qretn_l, qJ_s, qJ_n, qV0, qEx, ↓qif0, ↓zchk_pos, ↓reduceIte, qput, qWW, qmW, qkW, qnW, K_3 hK, bo, if_neg (show ¬ j < 0 by omega), a1, a2, x6, x7, if_pos c2.2, hy, w133_41, Int.reduceEq, ky, y1, ky3]
          · obtain ⟨m3, f13, h30, H3, r, n52, ⟨n73, dv⟩, n74, n75, n76, n78, n79, n80_⟩ := ref m1 k1 H1
            refine ⟨m3, ?_, f13, h30, H3⟩
            have p20 : m3 37 20 = 52 := P_37_20 H3.1.1.1.2.1
            have pp : m3 37 62 = 80 := P_37_62 H3.1.1.1.2.1
            have z2 : z32 (zm S 52 b - 1) = zm S 52 b - 1 := q32 (by omega)
            rw [r, b268_69]
            simp (config := { maxSteps := 2000000 }) (disch := first | omega | (simp only [K_37 hK, K_52 hK, K_80 hK, p20, pp, qb_in, qkW, qmW, qnW, true_and, and_true, or_self, true_or, or_true, and_self]; done) | (simp only [K_37 hK, K_52 hK, K_80 hK, p20, pp, qb_in, qkW, qmW, qnW, true_and, and_true, or_self, true_or, or_true, and_self]; omega)) only [b268_0, b268_5, b268_8, b268_21, b268_24, b268_28, b268_29, b268_37, b268_41, b268_48, b268_51, b268_55, b268_56, b268_59, b268_62, b268_64, b268_69, b268_84, b268_88, b268_97, b268_102, b268_111, b268_115, b268_119, b268_124, b268_136, b268_147, b268_148, b268_153, b268_162, b268_167, b268_176, b268_182, b268_191, b268_197, qcall_l, qcall_r, qretn_l, qJ_s, qJ_n, qV0, qEx, ↓qif0, ↓zchk_pos, ↓reduceIte, qput, qWW, qmW, qkW, qnW, K_37 hK, K_52 hK, K_80 hK, p20, pp, n52, z2, Int.reduceLT, Int.reduceEq, n80_]
        · refine qUn_k5 hH (zm S (y + 3) 3) ?_ (fun m1 k1 H1 => ?_)
          · simp (config := { maxSteps := 2000000 }) (disch := first | omega | (simp only [K_3 hK, a1, a2, x6, ky, y1, ky3, qb_in, qkW, qmW, qnW, true_and, and_true, or_self, true_or, or_true, and_self]; done) | (simp only [K_3 hK, a1, a2, x6, ky, y1, ky3, qb_in, qkW, qmW, qnW, true_and, and_true, or_self, true_or, or_true, and_self]; omega)) only [zD_133, b133_0, b133_5, b133_11, b133_20, b133_31, b133_88, b133_97, b133_108, b133_112, b133_113, b133_114, b133_120, b133_126, b133_132, b133_138, b133_144, b133_153, i133, w133_41, qcall_l, qcall_r, qretn_l, qJ_s, qJ_n, qV0, qEx, ↓qif0, ↓zchk_pos, ↓reduceIte, qput, qWW, qmW, qkW, qnW, K_3 hK, bo, if_neg (show ¬ j < 0 by omega), a1, a2, x6, x7, if_pos c2.2, hy, w133_41, Int.reduceEq, ky, y1, ky3]
          · obtain ⟨m3, f13, h30, H3, r, n52, ⟨n73, dv⟩, n74, n75, n76, n78, n79, n80_⟩ := ref m1 k1 H1
            refine ⟨m3, ?_, f13, h30, H3⟩
            have p20 : m3 37 20 = 52 := P_37_20 H3.1.1.1.2.1
            have pp : m3 37 60 = 78 := P_37_60 H3.1.1.1.2.1
            have z2 : z32 (zm S 52 b - 1) = zm S 52 b - 1 := q32 (by omega)
            rw [r, b268_69]
            simp (config := { maxSteps := 2000000 }) (disch := first | omega | (simp only [K_37 hK, K_52 hK, K_78 hK, p20, pp, qb_in, qkW, qmW, qnW, true_and, and_true, or_self, true_or, or_true, and_self]; done) | (simp only [K_37 hK, K_52 hK, K_78 hK, p20, pp, qb_in, qkW, qmW, qnW, true_and, and_true, or_self, true_or, or_true, and_self]; omega)) only [b268_0, b268_5, b268_8, b268_21, b268_24, b268_28, b268_29, b268_37, b268_41, b268_48, b268_51, b268_55, b268_56, b268_59, b268_62, b268_64, b268_69, b268_84, b268_88, b268_97, b268_102, b268_111, b268_115, b268_119, b268_124, b268_136, b268_147, b268_148, b268_153, b268_162, b268_167, b268_176, b268_182, b268_191, b268_197, qcall_l, qcall_r, qretn_l, qJ_s, qJ_n, qV0, qEx, ↓qif0, ↓zchk_pos, ↓reduceIte, qput, qWW, qmW, qkW, qnW, K_37 hK, K_52 hK, K_78 hK, p20, pp, n52, z2, Int.reduceLT, Int.reduceEq, n78]
      · have i2 := r_in e a 0 7 (zbump S) (by omega)
        rw [qb_n c3] at i2
        have hd := r_holdn e (zbump S) (zm S) 2 (by omega) hK (by decide)
        refine qUn_x5 hH 0 ?_ (by decide) ⟨qu (zm S) 37 0 2, ?_, qF0_u _ 2, qu_s _ _ _ _, qHB_0 (S := S) (m := zm S) (qHB1_0 hH.1) 2, q50_z 2⟩
        · simp (config := { maxSteps := 2000000 }) (disch := first | omega | (simp only [K_3 hK, a1, a2, x6, qb_in, qkW, qmW, qnW, true_and, and_true, or_self, true_or, or_true, and_self]; done) | (simp only [K_3 hK, a1, a2, x6, qb_in, qkW, qmW, qnW, true_and, and_true, or_self, true_or, or_true, and_self]; omega)) only [zD_133, b133_0, b133_5, b133_11, b133_20, b133_31, b133_88, b133_97, b133_108, b133_112, b133_113, b133_114, b133_120, b133_126, b133_132, b133_138, b133_144, b133_153, i133, w133_41, qcall_l, qcall_r, qretn_l, qJ_s, qJ_n, qV0, qEx, ↓qif0, ↓zchk_pos, ↓reduceIte, qput, qWW, qmW, qkW, qnW, K_3 hK, bo, if_neg (show ¬ j < 0 by omega), a1, a2, x6, x7, if_pos c2.2, hy, w133_41, if_neg (show ¬ a = 0 by omega), if_neg (show ¬ a = 1 by omega), if_neg (show ¬ a = 2 by omega), if_neg (show ¬ a = 3 by omega), if_neg (show ¬ a = 4 by omega), if_neg (show ¬ a = 5 by omega), if_neg (show ¬ a = 6 by omega), if_neg (show ¬ a = 7 by omega)]
        · have hd : zD e 182 [vr 37, vi 2] (zbump S) = some (.inl (some (vi 0)), qW (zbump S) (qu (zm S) 37 0 2)) := hd
          have e22 : zm (zbump S) 37 22 = 54 := p22
          have e54 : zm (zbump S) 54 b = zm S 54 b := rfl
          simp (config := { maxSteps := 2000000 }) (disch := first | omega | (simp only [K_37 hKb, K_54 hKb, e22, qb_in, qkW, qmW, qnW, true_and, and_true, or_self, true_or, or_true, and_self]; done) | (simp only [K_37 hKb, K_54 hKb, e22, qb_in, qkW, qmW, qnW, true_and, and_true, or_self, true_or, or_true, and_self]; omega)) only [zD_268, b268_0, b268_5, b268_8, b268_21, b268_24, b268_28, b268_29, b268_37, b268_41, b268_48, b268_51, b268_55, b268_56, b268_59, b268_62, b268_64, b268_84, b268_88, b268_97, b268_102, b268_111, b268_115, b268_119, b268_124, b268_136, b268_147, b268_148, b268_153, b268_162, b268_167, b268_176, b268_182, b268_191, b268_197, qcall_l, qcall_r, qretn_l, qJ_s, qJ_n, qV0, qEx, ↓qif0, ↓zchk_pos, ↓reduceIte, qput, qWW, qmW, qkW, qnW, K_37 hKb, K_54 hKb, ibb, e22, e54, z1, i1b, i2, hd, Int.reduceEq]
          rfl
    · rw [qb_n (show ¬ (0 ≤ j ∧ j ≤ zm S 54 b - 1) by omega)] at i1b
      have hd := r_holdn e (zbump S) (zm S) 1 (by omega) hK (by decide)
      refine qUn_x5 hH 2 ?_ (by decide) ⟨qu (zm S) 37 0 1, ?_, qF0_u _ 1, qu_s _ _ _ _, qHB_0 (S := S) (m := zm S) (qHB1_0 hH.1) 1, q50_z 1⟩
      · by_cases c4 : j < 0
        · simp (config := { maxSteps := 2000000 }) (disch := first | omega | (simp only [K_3 hK, qb_in, qkW, qmW, qnW, true_and, and_true, or_self, true_or, or_true, and_self]; done) | (simp only [K_3 hK, qb_in, qkW, qmW, qnW, true_and, and_true, or_self, true_or, or_true, and_self]; omega)) only [zD_133, b133_0, b133_5, b133_11, b133_20, b133_31, b133_88, b133_97, b133_108, b133_112, b133_113, b133_114, b133_120, b133_126, b133_132, b133_138, b133_144, b133_153, i133, w133_41, qcall_l, qcall_r, qretn_l, qJ_s, qJ_n, qV0, qEx, ↓qif0, ↓zchk_pos, ↓reduceIte, qput, qWW, qmW, qkW, qnW, K_3 hK, bo, if_pos c4]
        · simp (config := { maxSteps := 2000000 }) (disch := first | omega | (simp only [K_3 hK, a1, qb_in, qkW, qmW, qnW, true_and, and_true, or_self, true_or, or_true, and_self]; done) | (simp only [K_3 hK, a1, qb_in, qkW, qmW, qnW, true_and, and_true, or_self, true_or, or_true, and_self]; omega)) only [zD_133, b133_0, b133_5, b133_11, b133_20, b133_31, b133_88, b133_97, b133_108, b133_112, b133_113, b133_114, b133_120, b133_126, b133_132, b133_138, b133_144, b133_153, i133, w133_41, qcall_l, qcall_r, qretn_l, qJ_s, qJ_n, qV0, qEx, ↓qif0, ↓zchk_pos, ↓reduceIte, qput, qWW, qmW, qkW, qnW, K_3 hK, bo, if_neg c4, a1, x7, if_neg (show ¬ j < zm S 54 b by omega)]
      · have hd : zD e 182 [vr 37, vi 1] (zbump S) = some (.inl (some (vi 0)), qW (zbump S) (qu (zm S) 37 0 1)) := hd
        have e22 : zm (zbump S) 37 22 = 54 := p22
        have e54 : zm (zbump S) 54 b = zm S 54 b := rfl
        simp (config := { maxSteps := 2000000 }) (disch := first | omega | (simp only [K_37 hKb, K_54 hKb, e22, qb_in, qkW, qmW, qnW, true_and, and_true, or_self, true_or, or_true, and_self]; done) | (simp only [K_37 hKb, K_54 hKb, e22, qb_in, qkW, qmW, qnW, true_and, and_true, or_self, true_or, or_true, and_self]; omega)) only [zD_268, b268_0, b268_5, b268_8, b268_21, b268_24, b268_28, b268_29, b268_37, b268_41, b268_48, b268_51, b268_55, b268_56, b268_59, b268_62, b268_64, b268_84, b268_88, b268_97, b268_102, b268_111, b268_115, b268_119, b268_124, b268_136, b268_147, b268_148, b268_153, b268_162, b268_167, b268_176, b268_182, b268_191, b268_197, qcall_l, qcall_r, qretn_l, qJ_s, qJ_n, qV0, qEx, ↓qif0, ↓zchk_pos, ↓reduceIte, qput, qWW, qmW, qkW, qnW, K_37 hKb, K_54 hKb, ibb, e22, e54, z1, i1b, hd, Int.reduceEq]
        rfl
  · exact qUn_n5 hH (q_word_n d S b j a (by omega) hK hY.1 c1)
theorem r_allDots5 (d : Nat) (S : zS) (b : Int) (h : 13 ≤ d) (hH : qHB1 S) (hb : 0 ≤ b ∧ b < zm S 37 16) :
    ∃ m', zD d 270 [vr 37, vi b] S = some (.inl (some (vi (zm S (zm S 8 b) 12))), qW S m') ∧ qFly (zm S) m' ∧ qHB1 (qW S m') ∧ qLd (qW S m') b := by
  obtain ⟨e, rfl, he⟩ := qd h
  have hK := hH.1.1.1
  have hY := hH.1.2.2
  obtain ⟨-, -, wr, tr, -⟩ := qBs_x (hY.2.1 b hb.1 hb.2)
  obtain ⟨J, gL, gE, gA, gU, gM, P, ll, v0, -⟩ := hH.2 b hb.1 hb.2
  obtain ⟨Pr, x9, zk⟩ := qB0_P v0 wr.1 tr
  obtain ⟨cb1, cb2, cb3, cb4, cb5, cb6⟩ := v0.2.2
  obtain ⟨-, -, d1, d2⟩ := cb1
  obtain ⟨f, hf⟩ : ∃ f, zm S (zm S 8 b + 2) = f := ⟨_, rfl⟩
  obtain ⟨n, hn⟩ : ∃ n, (P * (zm S 52 b * zm S 51 b)).toNat = n := ⟨_, rfl⟩
  rw [hf] at d1 d2
  obtain ⟨-, -, q3, q4, -⟩ := qmp_r tr
  have asc : P * (zm S 52 b * zm S 51 b) = P * zm S 52 b * zm S 51 b := (Int.mul_assoc _ _ _).symm
  have h1 : P * zm S 52 b ≤ qmp (zm S 52 b) * zm S 52 b := Int.mul_le_mul_of_nonneg_right Pr.2.1 (by omega)
  have h2 : P * zm S 52 b * zm S 51 b ≤ qbl (zm S 51 b) (zm S 52 b) := Int.mul_le_mul_of_nonneg_right h1 (by omega)
  have h3 : 0 ≤ P * zm S 52 b * zm S 51 b := Int.mul_nonneg (Int.mul_nonneg Pr.1 (by omega)) (by omega)
  have bl := qbl_r tr wr
  -- all dots are those of the pages
  have dots : zm S (zm S 8 b) 12 = qsb f 0 n + qsb f 1 n + qsb f 2 n + qsb f 3 n + qsb f 4 n + qsb f 5 n := by
    rw [d1, ← qsum_6 f d2 n, show (qbl (zm S 51 b) (zm S 52 b)).toNat = n + ((qbl (zm S 51 b) (zm S 52 b)).toNat - n) by omega]
    refine qsum_z f n _ fun i i1 i2 => ?_
    -- a row behind the last page
    have k1 := Int.mul_ediv_add_emod i (zm S 51 b)
    have k2 := Int.emod_nonneg i (show zm S 51 b ≠ 0 by omega)
    have k3 := Int.emod_lt_of_pos i (show 0 < zm S 51 b by omega)
    have k4 : zm S 51 b * (i / zm S 51 b) = i / zm S 51 b * zm S 51 b := Int.mul_comm _ _
    have rr : P * zm S 52 b ≤ i / zm S 51 b := by
      by_cases q : P * zm S 52 b ≤ i / zm S 51 b
      · exact q
      · have := qixm (w := zm S 51 b) (a := i / zm S 51 b) (b := P * zm S 52 b) (by omega) (by omega)
        omega
    have hlt : (P - 1) * zm S 52 b + ll < i / zm S 51 b := by
      have e2 : (P - 1) * zm S 52 b = P * zm S 52 b - zm S 52 b := by rw [Int.sub_mul, Int.one_mul]
      rcases cb3 with ⟨_, q2, q3⟩ | ⟨q1, q2, q3, q4⟩ <;> omega
    have z := cb6 (i / zm S 51 b) (i % zm S 51 b) (Int.ediv_nonneg (by omega) (by omega)) hlt k2 k3
    rw [hf, show i / zm S 51 b * zm S 51 b + i % zm S 51 b = i by omega] at z
    exact z
  have one : ∀ (i : Int) (m : Int → Int → Int), 0 ≤ i → i < 6 → qFly (zm S) m → qHB1 (qW S m) → ∃ m', zD e 269 [vr 37, vi b, vi i] (qW S m) = some (.inl (some (vi (qsb f i n))), qW S m') ∧ qFly (zm S) m' ∧ qHB1 (qW S m') ∧ qLd (qW S m') b := fun i m i1 i2 fm gm => by
    have kb := qFx_b hH.1 (qFly_x fm) hb
    obtain ⟨m', r, fl, g, gl⟩ := r_dotsOf e (qW S m) b i (by omega) gm (by show 0 ≤ b ∧ b < m 37 16; rw [kb.2.1]; exact hb) ⟨i1, i2⟩
    rw [show zm (qW S m) 8 = zm S 8 from kb.1 8 (by omega), show zm (qW S m) 51 = zm S 51 from kb.1 51 (by omega), show zm (qW S m) 52 = zm S 52 from kb.1 52 (by omega), show zm (qW S m) (zm S 8 b) = zm S (zm S 8 b) from kb.2.2.1, show zm (qW S m) (zm S 8 b + 2) = zm S (zm S 8 b + 2) from kb.2.2.2.2, x9, hf, hn] at r
    exact ⟨m', r, qFly_t fm fl, g, gl⟩
  have n14 : (n : Int) ≤ 14520 := by omega
  have s0 := qsb_r f 0 n
  have s1 := qsb_r f 1 n
  have s2 := qsb_r f 2 n
  have s3 := qsb_r f 3 n
  have s4 := qsb_r f 4 n
  have s5 := qsb_r f 5 n
  obtain ⟨m0, r0, f0, g0⟩ := one 0 (zm S) (by decide) (by decide) (qFly_r _) hH
  obtain ⟨m1, r1, f1, g1⟩ := one 1 m0 (by decide) (by decide) f0 g0.1
  obtain ⟨m2, r2, f2, g2⟩ := one 2 m1 (by decide) (by decide) f1 g1.1
  obtain ⟨m3, r3, f3, g3⟩ := one 3 m2 (by decide) (by decide) f2 g2.1
  obtain ⟨m4, r4, f4, g4⟩ := one 4 m3 (by decide) (by decide) f3 g3.1
  obtain ⟨m5, r5, f5, g5⟩ := one 5 m4 (by decide) (by decide) f4 g4.1
  rw [qWS] at r0
  refine ⟨m5, ?_, f5, g5⟩
  rw [dots]
  generalize qsb f 0 n = a0 at *
  generalize qsb f 1 n = a1 at *
  generalize qsb f 2 n = a2 at *
  generalize qsb f 3 n = a3 at *
  generalize qsb f 4 n = a4 at *
  generalize qsb f 5 n = a5 at *
  have z0 : z32 (0 + a0) = a0 := by rw [q32 (by omega)]; omega
  have z1 : z32 (a0 + a1) = a0 + a1 := q32 (by omega)
  have z2 : z32 (a0 + a1 + a2) = a0 + a1 + a2 := q32 (by omega)
  have z3 : z32 (a0 + a1 + a2 + a3) = a0 + a1 + a2 + a3 := q32 (by omega)
  have z4 : z32 (a0 + a1 + a2 + a3 + a4) = a0 + a1 + a2 + a3 + a4 := q32 (by omega)
  have z5 : z32 (a0 + a1 + a2 + a3 + a4 + a5) = a0 + a1 + a2 + a3 + a4 + a5 := q32 (by omega)
  simp (config := { maxSteps := 2000000 }) (disch := first | omega | (simp only [K_37 hK, qb_in, qkW, qmW, qnW, true_and, and_true, or_self, true_or, or_true, and_self]; done) | (simp only [K_37 hK, qb_in, qkW, qmW, qnW, true_and, and_true, or_self, true_or, or_true, and_self]; omega)) only [zD_270, b270_0, b270_10, b270_17, b270_25, qcall_l, qcall_r, qretn_l, qJ_s, qJ_n, qV0, qEx, ↓qif0, ↓zchk_pos, ↓reduceIte, qput, qWW, qmW, qkW, qnW, b270_4, K_37 hK, r0, r1, r2, r3, r4, r5, z0, z1, z2, z3, z4, z5, show z32 (0 + 1) = 1 from rfl, show z32 (1 + 1) = 2 from rfl, show z32 (2 + 1) = 3 from rfl, show z32 (3 + 1) = 4 from rfl, show z32 (4 + 1) = 5 from rfl, show z32 (5 + 1) = 6 from rfl, Int.reduceLT]
theorem q_ofBook5 (d : Nat) (S : zS) (b a : Int) (h : 17 ≤ d) (hH : qHC S) :
    qUn vi qid (qG5 S) S (zD d 134 [vr 3, vi b, vi a] S) (zD d 271 [vr 37, vi b, vi a]) qpsD := by
  obtain ⟨⟨⟨⟨hK, hP, hL, hn⟩, ⟨hT, hC, hR, hk⟩, hPo, hY⟩, hBB⟩, hYC, hFc⟩ := id hH
  by_cases c1 : 0 ≤ b ∧ b < zm S 37 16
  · obtain ⟨e, rfl, he⟩ := qd h
    obtain ⟨⟨a1, a2, a3, a4, a5⟩, -, -, ⟨x3, wr⟩, ⟨x4, tr⟩, -, x6, ⟨x7, n0, n80⟩, x8, -⟩ := hY.2.1 b c1.1 c1.2
    have bo := s_bookOf_y e S b (by omega) hK hP hY.1 c1
    have hKb : qK (zbump S) := hK
    have hbn : b < 4 := by have := hY.1.2; omega
    have ibb := r_isbook_y e (zbump S) b (by omega) hKb hY.1.2 c1
    by_cases c3 : 0 ≤ a ∧ a ≤ 5
    · have ref : ∀ (m1 : Int → Int → Int), (∀ z, z ≠ 102 → m1 z = zm S z) → qHB1 (qW S m1) → ∃ m3, qF0 m1 m3 ∧ m3 37 0 = 0 ∧ (qHB1 (qW S m3) ∧ q50 S m3) ∧ zD (e + 1) 271 [vr 37, vi b, vi a] (qW S m1) = zF_271 e 40 [vr 37, vi b, vi a, vu] [vi (zm S (zm S 8 b) 9)] (qW S m3) ∧ m3 54 b = zm S 54 b ∧ (m3 37 53 + zm S (zm S 8 b) 9 = zm S (zm S 8 b) 10 ∧ 0 ≤ m3 37 53 ∧ m3 37 53 ≤ 240 ∧ 0 ≤ zm S (zm S 8 b) 9 ∧ zm S (zm S 8 b) 9 ≤ 121) ∧ m3 37 63 = zm S (zm S 8 b) 11 ∧ (∀ z, z ≤ 63 → z ≠ 37 → m3 z = zm S z) ∧ (∀ z, 90 ≤ z → z ≠ 102 → m3 z = zm S z) ∧ (∀ z, 81 ≤ z → z ≤ 88 → m3 z = zm S z) ∧ m3 37 16 = zm S 37 16 ∧ m3 37 65 = zm S 37 65 := by
        intro m1 k1 H1
        have k37 : m1 37 = zm S 37 := k1 37 (by decide)
        have hb1 : 0 ≤ b ∧ b < m1 37 16 := by rw [k37]; exact c1
        have ib := r_isbook_y e (qW S m1) b (by omega) hK H1.1.2.2.1.2 hb1
        have i2 := r_in e a 0 5 (qW S m1) (by omega)
        rw [qb_p c3] at i2
        have hd := r_hold0 e S m1 (by omega) hK
        have H2 := qHB_0 H1 0
        obtain ⟨m2, hm2⟩ : ∃ m2, qu m1 37 0 0 = m2 := ⟨_, rfl⟩
        have H2 : qHB1 (qW S (qu m1 37 0 0)) := H2
        rw [hm2] at hd H2
        have f2 : qF0 m1 m2 := by rw [← hm2]; exact qF0_u m1 0
        obtain ⟨g1, g2, -, g4⟩ := qF0_b k1 f2
        have n16 : m2 37 16 = zm S 37 16 := g4 16 (by unfold qfly; omega)
        have hb2 : 0 ≤ b ∧ b < zm (qW S m2) 37 16 := by show 0 ≤ b ∧ b < m2 37 16; rw [n16]; exact c1
        obtain ⟨m3, r3, f3, H3, l3⟩ := r_pagesOf e (qW S m2) b (by omega) H2 hb2
        rw [show zm (qW S m2) 8 = zm S 8 from g1 8 (by decide) (by decide), show zm (qW S m2) (zm S 8 b) = zm S (zm S 8 b) from g2 _ (by omega) (by omega)] at r3
        have r3 : zD e 266 [vr 37, vi b] (qW S m2) = some (.inl (some (vi (zm S (zm S 8 b) 9))), qW S m3) := r3
        have H3 : qHB1 (qW S m3) := H3
        have l3 : qLd (qW S m3) b := l3
        have f13 : qF0 m1 m3 := qF0_t f2 (qF0_l f3)
        have h30 : m3 37 0 = 0 := by
          rw [show m3 37 0 = m2 37 0 from f3 37 0 (by unfold qfly; omega), ← hm2, qu_s]
        obtain ⟨o1, o2, o3, o4⟩ := qF0_b k1 f13
        have m16 : m3 37 16 = zm S 37 16 := o4 16 (by unfold qfly; omega)
        have m65 : m3 37 65 = zm S 37 65 := o4 65 (by unfold qfly; omega)
        obtain ⟨J', gL, gE, gA, gU, gM, P', ll', v0, v1⟩ := qBB_l (H3.2 b c1.1 (by show b < m3 37 16; rw [m16]; exact c1.2)) l3
        have q8 : zm (qW S m3) 8 = zm S 8 := o1 8 (by decide) (by decide)
        have q51 : zm (qW S m3) 51 = zm S 51 := o1 51 (by decide) (by decide)
        have q52 : zm (qW S m3) 52 = zm S 52 := o1 52 (by decide) (by decide)
        have qx : zm (qW S m3) (zm S 8 b) = zm S (zm S 8 b) := o2 _ (by omega) (by omega)
        rw [q8] at v0
        rw [q51, q52] at v0 v1
        obtain ⟨Pr', x9', zk'⟩ := qB0_P v0 wr.1 tr
        have cb := v0.2.2.2.1
        rw [qx] at cb x9'
        have n53 : m3 37 53 = (qZn (zm S 51 b) (zm S 52 b) gL gE gA J').1 := v1.1.1
        have J80 := v0.1.2.1
        have zz := zk'.1
        refine ⟨m3, f13, h30, ⟨H3, q50_l l3.1 c1⟩, ?_, by rw [o1 54 (by decide) (by decide)], ⟨by rw [cb.1, n53, x9'], by omega, by omega, by omega, by omega⟩, by rw [cb.2]; exact v1.2.2, o1, o2, o3, m16, m65⟩
        simp (config := { maxSteps := 2000000 }) (disch := first | omega | (simp only [K_37 hK, qb_in, qkW, qmW, qnW, true_and, and_true, or_self, true_or, or_true, and_self]; done) | (simp only [K_37 hK, qb_in, qkW, qmW, qnW, true_and, and_true, or_self, true_or, or_true, and_self]; omega)) only [zD_271, b271_0, b271_6, b271_9, b271_13, b271_19, b271_22, b271_26, b271_27, b271_30, b271_33, b271_35, b271_46, b271_50, b271_59, b271_64, b271_68, b271_74, b271_75, b271_80, b271_87, b271_92, b271_97, b271_100, b271_105, qcall_l, qcall_r, qretn_l, qJ_s, qJ_n, qV0, qEx, ↓qif0, ↓zchk_pos, ↓reduceIte, qput, qWW, qmW, qkW, qnW, K_37 hK, ib, i2, hd, r3, Int.reduceEq]
      have hcase : a = 0 ∨ a = 1 ∨ a = 2 ∨ a = 3 ∨ a = 4 ∨ a = 5 := by omega
      rcases hcase with rfl | rfl | rfl | rfl | rfl | rfl
      · refine qUn_k5 hH (zm S 54 b) ?_ (fun m1 k1 H1 => ?_)
        · skip
          simp (config := { maxSteps := 2000000 }) (disch := first | omega | (simp only [K_3 hK, a1, qb_in, qkW, qmW, qnW, true_and, and_true, or_self, true_or, or_true, and_self]; done) | (simp only [K_3 hK, a1, qb_in, qkW, qmW, qnW, true_and, and_true, or_self, true_or, or_true, and_self]; omega)) only [zD_134, b134_0, b134_5, b134_44, b134_49, b134_54, b134_59, b134_64, b134_69, b134_74, i134, w134_7, qcall_l, qcall_r, qretn_l, qJ_s, qJ_n, qV0, qEx, ↓qif0, ↓zchk_pos, ↓reduceIte, qput, qWW, qmW, qkW, qnW, K_3 hK, bo, w134_7, Int.reduceEq, a1, x7]
        · obtain ⟨m3, f13, h30, H3, r, n54, ⟨n10, nb⟩, n63, o1, o2, o3, m16, m65⟩ := ref m1 k1 H1
          have hP3 := H3.1.1.1.2.1
          have p22 : m3 37 22 = 54 := P_37_22 hP3
          refine ⟨m3, ?_, f13, h30, H3⟩
          rw [r, b271_40]
          simp (config := { maxSteps := 2000000 }) (disch := first | omega | (simp only [K_37 hK, K_54 hK, p22, qb_in, qkW, qmW, qnW, true_and, and_true, or_self, true_or, or_true, and_self]; done) | (simp only [K_37 hK, K_54 hK, p22, qb_in, qkW, qmW, qnW, true_and, and_true, or_self, true_or, or_true, and_self]; omega)) only [b271_0, b271_6, b271_9, b271_13, b271_19, b271_22, b271_26, b271_27, b271_30, b271_33, b271_35, b271_40, b271_46, b271_50, b271_59, b271_64, b271_68, b271_74, b271_75, b271_80, b271_87, b271_92, b271_97, b271_100, b271_105, qcall_l, qcall_r, qretn_l, qJ_s, qJ_n, qV0, qEx, ↓qif0, ↓zchk_pos, ↓reduceIte, qput, qWW, qmW, qkW, qnW, K_37 hK, K_54 hK, p22, Int.reduceLT, Int.reduceEq, n54]
      · refine qUn_k5 hH (zm S (zm S 8 b) 9) ?_ (fun m1 k1 H1 => ?_)
        · skip
          simp (config := { maxSteps := 2000000 }) (disch := first | omega | (simp only [K_3 hK, a1, qb_in, qkW, qmW, qnW, true_and, and_true, or_self, true_or, or_true, and_self]; done) | (simp only [K_3 hK, a1, qb_in, qkW, qmW, qnW, true_and, and_true, or_self, true_or, or_true, and_self]; omega)) only [zD_134, b134_0, b134_5, b134_44, b134_49, b134_54, b134_59, b134_64, b134_69, b134_74, i134, w134_7, qcall_l, qcall_r, qretn_l, qJ_s, qJ_n, qV0, qEx, ↓qif0, ↓zchk_pos, ↓reduceIte, qput, qWW, qmW, qkW, qnW, K_3 hK, bo, w134_7, Int.reduceEq, a1, a1]
        · obtain ⟨m3, f13, h30, H3, r, n54, ⟨n10, nb⟩, n63, o1, o2, o3, m16, m65⟩ := ref m1 k1 H1
          have hP3 := H3.1.1.1.2.1
          have p22 : m3 37 22 = 54 := P_37_22 hP3
          refine ⟨m3, ?_, f13, h30, H3⟩
          rw [r, b271_40]
          simp (config := { maxSteps := 2000000 }) (disch := first | omega | (simp only [K_37 hK, K_54 hK, p22, qb_in, qkW, qmW, qnW, true_and, and_true, or_self, true_or, or_true, and_self]; done) | (simp only [K_37 hK, K_54 hK, p22, qb_in, qkW, qmW, qnW, true_and, and_true, or_self, true_or, or_true, and_self]; omega)) only [b271_0, b271_6, b271_9, b271_13, b271_19, b271_22, b271_26, b271_27, b271_30, b271_33, b271_35, b271_40, b271_46, b271_50, b271_59, b271_64, b271_68, b271_74, b271_75, b271_80, b271_87, b271_92, b271_97, b271_100, b271_105, qcall_l, qcall_r, qretn_l, qJ_s, qJ_n, qV0, qEx, ↓qif0, ↓zchk_pos, ↓reduceIte, qput, qWW, qmW, qkW, qnW, K_37 hK, K_54 hK, p22, Int.reduceLT, Int.reduceEq, Int.reduceEq]
      · refine qUn_k5 hH (zm S (zm S 8 b) 10) ?_ (fun m1 k1 H1 => ?_)
        · skip
          simp (config := { maxSteps := 2000000 }) (disch := first | omega | (simp only [K_3 hK, a1, qb_in, qkW, qmW, qnW, true_and, and_true, or_self, true_or, or_true, and_self]; done) | (simp only [K_3 hK, a1, qb_in, qkW, qmW, qnW, true_and, and_true, or_self, true_or, or_true, and_self]; omega)) only [zD_134, b134_0, b134_5, b134_44, b134_49, b134_54, b134_59, b134_64, b134_69, b134_74, i134, w134_7, qcall_l, qcall_r, qretn_l, qJ_s, qJ_n, qV0, qEx, ↓qif0, ↓zchk_pos, ↓reduceIte, qput, qWW, qmW, qkW, qnW, K_3 hK, bo, w134_7, Int.reduceEq, a1, a1]
        · obtain ⟨m3, f13, h30, H3, r, n54, ⟨n10, nb⟩, n63, o1, o2, o3, m16, m65⟩ := ref m1 k1 H1
          have hP3 := H3.1.1.1.2.1
          have p22 : m3 37 22 = 54 := P_37_22 hP3
          refine ⟨m3, ?_, f13, h30, H3⟩
          rw [r, b271_40]
          have z3 : z32 (zm S (zm S 8 b) 10) = zm S (zm S 8 b) 10 := q32 (by omega)
          simp (config := { maxSteps := 2000000 }) (disch := first | omega | (simp only [K_37 hK, K_54 hK, p22, qb_in, qkW, qmW, qnW, true_and, and_true, or_self, true_or, or_true, and_self]; done) | (simp only [K_37 hK, K_54 hK, p22, qb_in, qkW, qmW, qnW, true_and, and_true, or_self, true_or, or_true, and_self]; omega)) only [b271_0, b271_6, b271_9, b271_13, b271_19, b271_22, b271_26, b271_27, b271_30, b271_33, b271_35, b271_40, b271_46, b271_50, b271_59, b271_64, b271_68, b271_74, b271_75, b271_80, b271_87, b271_92, b271_97, b271_100, b271_105, qcall_l, qcall_r, qretn_l, qJ_s, qJ_n, qV0, qEx, ↓qif0, ↓zchk_pos, ↓reduceIte, qput, qWW, qmW, qkW, qnW, K_37 hK, K_54 hK, p22, Int.reduceLT, Int.reduceEq, n10, z3]
      · refine qUn_k5 hH (zm S (zm S 8 b) 11) ?_ (fun m1 k1 H1 => ?_)
        · skip
          simp (config := { maxSteps := 2000000 }) (disch := first | omega | (simp only [K_3 hK, a1, qb_in, qkW, qmW, qnW, true_and, and_true, or_self, true_or, or_true, and_self]; done) | (simp only [K_3 hK, a1, qb_in, qkW, qmW, qnW, true_and, and_true, or_self, true_or, or_true, and_self]; omega)) only [zD_134, b134_0, b134_5, b134_44, b134_49, b134_54, b134_59, b134_64, b134_69, b134_74, i134, w134_7, qcall_l, qcall_r, qretn_l, qJ_s, qJ_n, qV0, qEx, ↓qif0, ↓zchk_pos, ↓reduceIte, qput, qWW, qmW, qkW, qnW, K_3 hK, bo, w134_7, Int.reduceEq, a1, a1]
        · obtain ⟨m3, f13, h30, H3, r, n54, ⟨n10, nb⟩, n63, o1, o2, o3, m16, m65⟩ := ref m1 k1 H1
          have hP3 := H3.1.1.1.2.1
          have p22 : m3 37 22 = 54 := P_37_22 hP3
          refine ⟨m3, ?_, f13, h30, H3⟩
          rw [r, b271_40]
          simp (config := { maxSteps := 2000000 }) (disch := first | omega | (simp only [K_37 hK, K_54 hK, p22, qb_in, qkW, qmW, qnW, true_and, and_true, or_self, true_or, or_true, and_self]; done) | (simp only [K_37 hK, K_54 hK, p22, qb_in, qkW, qmW, qnW, true_and, and_true, or_self, true_or, or_true, and_self]; omega)) only [b271_0, b271_6, b271_9, b271_13, b271_19, b271_22, b271_26, b271_27, b271_30, b271_33, b271_35, b271_40, b271_46, b271_50, b271_59, b271_64, b271_68, b271_74, b271_75, b271_80, b271_87, b271_92, b271_97, b271_100, b271_105, qcall_l, qcall_r, qretn_l, qJ_s, qJ_n, qV0, qEx, ↓qif0, ↓zchk_pos, ↓reduceIte, qput, qWW, qmW, qkW, qnW, K_37 hK, K_54 hK, p22, Int.reduceLT, Int.reduceEq, n63]
      · refine qUn_k5 hH (zm S (zm S 8 b) 12) ?_ (fun m1 k1 H1 => ?_)
        · skip
          simp (config := { maxSteps := 2000000 }) (disch := first | omega | (simp only [K_3 hK, a1, qb_in, qkW, qmW, qnW, true_and, and_true, or_self, true_or, or_true, and_self]; done) | (simp only [K_3 hK, a1, qb_in, qkW, qmW, qnW, true_and, and_true, or_self, true_or, or_true, and_self]; omega)) only [zD_134, b134_0, b134_5, b134_44, b134_49, b134_54, b134_59, b134_64, b134_69, b134_74, i134, w134_7, qcall_l, qcall_r, qretn_l, qJ_s, qJ_n, qV0, qEx, ↓qif0, ↓zchk_pos, ↓reduceIte, qput, qWW, qmW, qkW, qnW, K_3 hK, bo, w134_7, Int.reduceEq, a1, a1]
        · obtain ⟨m3, f13, h30, H3, r, n54, ⟨n10, nb⟩, n63, o1, o2, o3, m16, m65⟩ := ref m1 k1 H1
          have hP3 := H3.1.1.1.2.1
          have p22 : m3 37 22 = 54 := P_37_22 hP3
          obtain ⟨m4, r4, f4, H4, l4⟩ := r_allDots5 e (qW S m3) b (by omega) H3.1 (by show 0 ≤ b ∧ b < m3 37 16; rw [m16]; exact c1)
          rw [show zm (qW S m3) 8 = zm S 8 from o1 8 (by decide) (by decide), show zm (qW S m3) (zm S 8 b) = zm S (zm S 8 b) from o2 _ (by omega) (by omega)] at r4
          have r4 : zD e 270 [vr 37, vi b] (qW S m3) = some (.inl (some (vi (zm S (zm S 8 b) 12))), qW S m4) := r4
          refine ⟨m4, ?_, qF0_t f13 (qF0_l f4), by rw [show m4 37 0 = m3 37 0 from f4 37 0 (by unfold qfly; omega), h30], H4, q50_l l4.1 c1⟩
          rw [r, b271_40]
          simp (config := { maxSteps := 2000000 }) (disch := first | omega | (simp only [K_37 hK, qb_in, qkW, qmW, qnW, true_and, and_true, or_self, true_or, or_true, and_self]; done) | (simp only [K_37 hK, qb_in, qkW, qmW, qnW, true_and, and_true, or_self, true_or, or_true, and_self]; omega)) only [b271_0, b271_6, b271_9, b271_13, b271_19, b271_22, b271_26, b271_27, b271_30, b271_33, b271_35, b271_40, b271_46, b271_50, b271_59, b271_64, b271_68, b271_74, b271_75, b271_80, b271_87, b271_92, b271_97, b271_100, b271_105, qcall_l, qcall_r, qretn_l, qJ_s, qJ_n, qV0, qEx, ↓qif0, ↓zchk_pos, ↓reduceIte, qput, qWW, qmW, qkW, qnW, K_37 hK, Int.reduceLT, Int.reduceEq, r4]
      · refine qUn_k5 hH (qbn (zm S) b (zm S 37 65).toNat) ?_ (fun m1 k1 H1 => ?_)
        · have h13 := hYC.1 b c1.1 c1.2
          simp (config := { maxSteps := 2000000 }) (disch := first | omega | (simp only [K_3 hK, a1, qb_in, qkW, qmW, qnW, true_and, and_true, or_self, true_or, or_true, and_self]; done) | (simp only [K_3 hK, a1, qb_in, qkW, qmW, qnW, true_and, and_true, or_self, true_or, or_true, and_self]; omega)) only [zD_134, b134_0, b134_5, b134_44, b134_49, b134_54, b134_59, b134_64, b134_69, b134_74, i134, w134_7, qcall_l, qcall_r, qretn_l, qJ_s, qJ_n, qV0, qEx, ↓qif0, ↓zchk_pos, ↓reduceIte, qput, qWW, qmW, qkW, qnW, K_3 hK, bo, w134_7, Int.reduceEq, a1, h13]
        · obtain ⟨m3, f13, h30, H3, r, n54, ⟨n10, nb⟩, n63, o1, o2, o3, m16, m65⟩ := ref m1 k1 H1
          have hP3 := H3.1.1.1.2.1
          have p22 : m3 37 22 = 54 := P_37_22 hP3
          have hn65 := hPo.2.2.2.1.1.2
          have r4 := r_copiesOf e (qW S m3) b (by omega) hK hP3 (by show 0 ≤ m3 37 65 ∧ m3 37 65 ≤ 20; rw [m65]; exact hn65)
          rw [show zm (qW S m3) = m3 from rfl, m65, qbn_e (o3 82 (by decide) (by decide))] at r4
          refine ⟨m3, ?_, f13, h30, H3⟩
          rw [r, b271_40]
          simp (config := { maxSteps := 2000000 }) (disch := first | omega | (simp only [K_37 hK, qb_in, qkW, qmW, qnW, true_and, and_true, or_self, true_or, or_true, and_self]; done) | (simp only [K_37 hK, qb_in, qkW, qmW, qnW, true_and, and_true, or_self, true_or, or_true, and_self]; omega)) only [b271_0, b271_6, b271_9, b271_13, b271_19, b271_22, b271_26, b271_27, b271_30, b271_33, b271_35, b271_40, b271_46, b271_50, b271_59, b271_64, b271_68, b271_74, b271_75, b271_80, b271_87, b271_92, b271_97, b271_100, b271_105, qcall_l, qcall_r, qretn_l, qJ_s, qJ_n, qV0, qEx, ↓qif0, ↓zchk_pos, ↓reduceIte, qput, qWW, qmW, qkW, qnW, K_37 hK, Int.reduceLT, Int.reduceEq, r4]
    · have i2 := r_in e a 0 5 (zbump S) (by omega)
      rw [qb_n c3] at i2
      have hd := r_holdn e (zbump S) (zm S) 2 (by omega) hK (by decide)
      refine qUn_x5 hH 0 ?_ (by decide) ⟨qu (zm S) 37 0 2, ?_, qF0_u _ 2, qu_s _ _ _ _, qHB_0 (S := S) (m := zm S) (qHB1_0 hH.1) 2, q50_z 2⟩
      · simp (config := { maxSteps := 2000000 }) (disch := first | omega | (simp only [K_3 hK, qb_in, qkW, qmW, qnW, true_and, and_true, or_self, true_or, or_true, and_self]; done) | (simp only [K_3 hK, qb_in, qkW, qmW, qnW, true_and, and_true, or_self, true_or, or_true, and_self]; omega)) only [zD_134, b134_0, b134_5, b134_44, b134_49, b134_54, b134_59, b134_64, b134_69, b134_74, i134, w134_7, qcall_l, qcall_r, qretn_l, qJ_s, qJ_n, qV0, qEx, ↓qif0, ↓zchk_pos, ↓reduceIte, qput, qWW, qmW, qkW, qnW, K_3 hK, bo, w134_7, if_neg (show ¬ a = 0 by omega), if_neg (show ¬ a = 1 by omega), if_neg (show ¬ a = 2 by omega), if_neg (show ¬ a = 3 by omega), if_neg (show ¬ a = 4 by omega), if_neg (show ¬ a = 5 by omega)]
      · have hd : zD e 182 [vr 37, vi 2] (zbump S) = some (.inl (some (vi 0)), qW (zbump S) (qu (zm S) 37 0 2)) := hd
        simp (config := { maxSteps := 2000000 }) (disch := first | omega | (simp only [K_37 hKb, qb_in, qkW, qmW, qnW, true_and, and_true, or_self, true_or, or_true, and_self]; done) | (simp only [K_37 hKb, qb_in, qkW, qmW, qnW, true_and, and_true, or_self, true_or, or_true, and_self]; omega)) only [zD_271, b271_0, b271_6, b271_9, b271_13, b271_19, b271_22, b271_26, b271_27, b271_30, b271_33, b271_35, b271_46, b271_50, b271_59, b271_64, b271_68, b271_74, b271_75, b271_80, b271_87, b271_92, b271_97, b271_100, b271_105, qcall_l, qcall_r, qretn_l, qJ_s, qJ_n, qV0, qEx, ↓qif0, ↓zchk_pos, ↓reduceIte, qput, qWW, qmW, qkW, qnW, K_37 hKb, ibb, i2, hd, Int.reduceEq]
        rfl
  · exact qUn_n5 hH (q_ofBook_n d S b a (by omega) hK hY.1 c1)
theorem q_unknown5 (d : Nat) (S : zS) (r b : Int) (h : 15 ≤ d) (hH : qHC S) :
    qUn vi qid (qG5 S) S (zD d 143 [vr 3, vi r, vi b] S) (zD d 293 [vr 37, vi r, vi b]) qpsF := by
  obtain ⟨⟨⟨⟨hK, hP, hL, hn⟩, ⟨hT, hC, hR, hk⟩, ⟨p1, p2, p3, p4, p5, p6⟩, hY⟩, hBB⟩, hYC, hFc⟩ := id hH
  by_cases c1 : 0 ≤ r ∧ r < zm S 37 76
  · obtain ⟨e, rfl, he⟩ := qd h
    have ro := s_readerOf_y e S r (by omega) hK hP p5.1 c1
    have kr := (p5.2.1 r c1.1 c1.2).1.1
    by_cases c2 : 0 ≤ b ∧ b < zm S 37 16
    · have bo := s_bookOf_y e S b (by omega) hK hP hY.1 c2
      have kb := (hY.2.1 b c2.1 c2.2).1.1
      have su := s_countUnknown e S r b (by omega) hH.1 c1 c2
      refine qUn_k5 hH (quk (zm S) r b) ?_ (fun m1 k1 H1 => ?_)
      · simp (config := { maxSteps := 2000000 }) (disch := first | omega | (simp only [K_3 hK, qb_in, qkW, qmW, qnW, true_and, and_true, or_self, true_or, or_true, and_self]; done) | (simp only [K_3 hK, qb_in, qkW, qmW, qnW, true_and, and_true, or_self, true_or, or_true, and_self]; omega)) only [zD_143, b143_0, b143_5, b143_10, b143_13, qcall_l, qcall_r, qretn_l, qJ_s, qJ_n, qV0, qEx, ↓qif0, ↓zchk_pos, ↓reduceIte, qput, qWW, qmW, qkW, qnW, K_3 hK, ro, bo, su]
      · have k37 : m1 37 = zm S 37 := k1 37 (by decide)
        have ir := r_isreader_y e (qW S m1) r (by omega) hK (by show 0 ≤ m1 37 76 ∧ m1 37 76 ≤ 6; rw [k37]; exact p5.1.2) (by show 0 ≤ r ∧ r < m1 37 76; rw [k37]; exact c1)
        have ib := r_isbook_y e (qW S m1) b (by omega) hK H1.1.2.2.1.2 (by show 0 ≤ b ∧ b < m1 37 16; rw [k37]; exact c2)
        have hd := r_hold0 e S m1 (by omega) hK
        have H2 := qHB_0 H1 0
        obtain ⟨m2, hm2⟩ : ∃ m2, qu m1 37 0 0 = m2 := ⟨_, rfl⟩
        have H2 : qHB1 (qW S (qu m1 37 0 0)) := H2
        rw [hm2] at hd H2
        have f2 : qF0 m1 m2 := by rw [← hm2]; exact qF0_u m1 0
        have n16 : m2 37 16 = zm S 37 16 := by rw [← hm2, qu_i _ _ _ _ _ (by decide), k37]
        have o2 : ∀ z, z ≠ 102 → z ≠ 37 → m2 z = zm S z := fun z h1 h2 => by rw [← hm2, qu_o _ _ _ _ _ h2, k1 z h1]
        obtain ⟨m3, r3, f3, H3, l3⟩ := r_unknownTo e (qW S m2) r b (by omega) H2 ⟨c1.1, by have := p5.1.2; omega⟩ (by show 0 ≤ b ∧ b < m2 37 16; rw [n16]; exact c2)
        rw [show quk (zm (qW S m2)) r b = quk (zm S) r b from quk_e hH.1 c2 (o2 8 (by decide) (by decide)) (o2 49 (by decide) (by decide)) (o2 54 (by decide) (by decide)) (o2 91 (by decide) (by decide)) fun x hx => o2 x (by omega) (by omega)] at r3
        have h30 : m3 37 0 = 0 := by
          rw [show m3 37 0 = m2 37 0 from f3 37 0 (by unfold qfly; omega), ← hm2, qu_s]
        refine ⟨m3, ?_, qF0_t f2 (qF0_l f3), h30, H3, q50_l l3.1 c2⟩
        simp (config := { maxSteps := 2000000 }) (disch := first | omega | (simp only [K_37 hK, qb_in, qkW, qmW, qnW, true_and, and_true, or_self, true_or, or_true, and_self]; done) | (simp only [K_37 hK, qb_in, qkW, qmW, qnW, true_and, and_true, or_self, true_or, or_true, and_self]; omega)) only [zD_293, b293_0, b293_6, b293_9, b293_14, b293_17, b293_21, b293_22, b293_25, b293_28, b293_34, b293_37, b293_38, qcall_l, qcall_r, qretn_l, qJ_s, qJ_n, qV0, qEx, ↓qif0, ↓zchk_pos, ↓reduceIte, qput, qWW, qmW, qkW, qnW, K_37 hK, ir, ib, hd, r3, Int.reduceEq]
    · refine qUn_n5 hH ⟨2, ?_, ?_, by decide⟩
      · have bo := s_bookOf_n e S b (by omega) hK hY.1 c2
        simp (config := { maxSteps := 2000000 }) (disch := first | omega | (simp only [K_3 hK, kr, qb_in, qkW, qmW, qnW, true_and, and_true, or_self, true_or, or_true, and_self]; done) | (simp only [K_3 hK, kr, qb_in, qkW, qmW, qnW, true_and, and_true, or_self, true_or, or_true, and_self]; omega)) only [zD_143, b143_0, b143_5, b143_10, b143_13, qcall_l, qcall_r, qretn_l, qJ_s, qJ_n, qV0, qEx, ↓qif0, ↓zchk_pos, ↓reduceIte, qput, qWW, qmW, qkW, qnW, K_3 hK, ro, bo, kr]
      · have hKb : qK (zbump S) := hK
        have ir := r_isreader_y e (zbump S) r (by omega) hK p5.1.2 c1
        have ib := r_isbook_n e S b (by omega) hK hY.1.2 c2
        have hd := r_refuse e S 1 (by omega) hK (by decide)
        simp (config := { maxSteps := 2000000 }) (disch := first | omega | (simp only [K_37 hKb, qb_in, qkW, qmW, qnW, true_and, and_true, or_self, true_or, or_true, and_self]; done) | (simp only [K_37 hKb, qb_in, qkW, qmW, qnW, true_and, and_true, or_self, true_or, or_true, and_self]; omega)) only [zD_293, b293_0, b293_6, b293_9, b293_14, b293_17, b293_21, b293_22, b293_25, b293_28, b293_34, b293_37, b293_38, qcall_l, qcall_r, qretn_l, qJ_s, qJ_n, qV0, qEx, ↓qif0, ↓zchk_pos, ↓reduceIte, qput, qWW, qmW, qkW, qnW, K_37 hKb, ir, ib, hd, Int.reduceEq]
        rfl
  · exact qUn_n5 hH (q_unknown_n d S r b (by omega) hK p5.1 c1)
