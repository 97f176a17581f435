/-! Passing days: the class. -/
def qPE (S : zS) (z j : Int) : Prop := (z = 3 ∧ j = 13) ∨ (z = 15 ∧ j = 2) ∨ z = 16 ∨ z = 17 ∨ (103 ≤ z ∧ ((zk S z = (24, 0) ∧ 6 ≤ j ∧ j ≤ 8) ∨ (zk S z = (27, 0) ∧ j = 2)))
def qPC (S : zS) (m : Int → Int → Int) (p : qQ) : Prop := (m 3 13 = p.2.2.2.2.2.2 ∧ m 15 2 = p.2.2.2.2.2.1) ∧ (∀ k, 0 ≤ k → k < p.2.2.2.2.2.1 → m 16 k = p.2.2.2.1 k ∧ m 17 k = p.2.2.2.2.1 k) ∧ (∀ k, 0 ≤ k → k < zm S 37 65 → m (zm S 13 k) 6 = p.1 k ∧ m (zm S 13 k) 7 = p.2.1 k ∧ m (zm S 13 k) 8 = p.2.2.1 k) ∧ (∀ i, 0 ≤ i → i < zm S 37 76 → m (zm S 14 i) 2 = qcv p.1 i (zm S 37 65).toNat) ∧ ∀ z j, ¬ qPE S z j → m z j = zm S z j
theorem qPE_lo {S : zS} {z j : Int} (hz : z < 103) (h : ¬ (z = 3 ∧ j = 13)) (h2 : ¬ (z = 15 ∧ j = 2)) (h3 : z ≠ 16 ∧ z ≠ 17) : ¬ qPE S z j := fun q => by
  rcases q with q | q | q | q | q
  · exact h q
  · exact h2 q
  · exact h3.1 q
  · exact h3.2 q
  · omega
theorem qPE_k {S : zS} {z j : Int} (hz : 103 ≤ z) (h : zk S z = (24, 0) → j < 6) (h2 : zk S z = (27, 0) → j ≠ 2) : ¬ qPE S z j := fun q => by
  rcases q with q | q | q | q | ⟨-, ⟨q1, q2, -⟩ | ⟨q1, q2⟩⟩
  · omega
  · omega
  · omega
  · omega
  · have := h q1; omega
  · exact h2 q1 q2
theorem qPC_P {S : zS} {m : Int → Int → Int} {p : qQ} (hH : qHC S) (h : qPC S m p) : qP m := by
  obtain ⟨⟨⟨⟨-, hP, -, hn⟩, -⟩, -⟩, -⟩ := hH
  refine qP_m (S' := qW S m) hP (qAg_w h.2.2.2.2) hn fun x j q => ?_
  exact qPE_lo (by omega) (by omega) (by omega) (by omega)
theorem s_isOpenTo (d : Nat) (S : zS) (x r dy : Int) (h : 1 ≤ d) (kx : zk S x = (20, 0)) (hr : 0 ≤ r ∧ r < 32) : zD d 1 [vr x, vi r, vi dy] S = some (.inl (some (vi (if ¬ dy < zm S x 14 ∨ qbt (zm S x 15) r = 1 then 1 else 0))), S) := by
  obtain ⟨e, rfl, -⟩ := qd h
  have bz := qbt_z (zm S x 15) r hr
  by_cases c1 : dy < zm S x 14
  · by_cases c2 : qbt (zm S x 15) r = 1
    · rw [if_pos (Or.inr c2)]
      simp (config := { maxSteps := 2000000 }) (disch := first | omega | (simp only [kx, qb_in, qkW, qmW, qnW, true_and, and_true, or_self, true_or, or_true, and_self]; done) | (simp only [kx, qb_in, qkW, qmW, qnW, true_and, and_true, or_self, true_or, or_true, and_self]; omega)) only [zD_1, b1_0, b1_8, b1_20, b1_24, b1_25, qcall_l, qcall_r, qretn_l, qJ_s, qJ_n, qV0, qEx, ↓qif0, ↓zchk_pos, ↓reduceIte, qput, qWW, qmW, qkW, qnW, kx, if_pos c1, bz, if_pos c2, Int.reduceLE, and_self, true_and]
    · rw [if_neg (fun q => q.elim (fun q => q c1) c2)]
      simp (config := { maxSteps := 2000000 }) (disch := first | omega | (simp only [kx, qb_in, qkW, qmW, qnW, true_and, and_true, or_self, true_or, or_true, and_self]; done) | (simp only [kx, qb_in, qkW, qmW, qnW, true_and, and_true, or_self, true_or, or_true, and_self]; omega)) only [zD_1, b1_0, b1_8, b1_20, b1_24, b1_25, qcall_l, qcall_r, qretn_l, qJ_s, qJ_n, qV0, qEx, ↓qif0, ↓zchk_pos, ↓reduceIte, qput, qWW, qmW, qkW, qnW, kx, if_pos c1, bz, if_neg c2, Int.reduceLE, and_self, true_and]
  · rw [if_pos (Or.inl c1)]
    simp (config := { maxSteps := 2000000 }) (disch := first | omega | (simp only [kx, qb_in, qkW, qmW, qnW, true_and, and_true, or_self, true_or, or_true, and_self]; done) | (simp only [kx, qb_in, qkW, qmW, qnW, true_and, and_true, or_self, true_or, or_true, and_self]; omega)) only [zD_1, b1_0, b1_8, b1_20, b1_24, b1_25, qcall_l, qcall_r, qretn_l, qJ_s, qJ_n, qV0, qEx, ↓qif0, ↓zchk_pos, ↓reduceIte, qput, qWW, qmW, qkW, qnW, kx, if_neg c1, Int.reduceLE, and_self, true_and]
theorem s_bestWish (d : Nat) (S : zS) (m : Int → Int → Int) (p : qQ) (k b : Int) (h : 3 ≤ d) (hH : qHC S) (hp : qPC S m p) (hq : qQk (zm S) p) (hk : 0 ≤ k ∧ k < zm S 37 65) (hb : zm S 82 k = b) : zD d 171 [vr 3, vr (zm S 13 k)] (qW S m) = some (.inl (some (vi (qwf_ (zm S) p b p.2.2.2.2.2.1.toNat))), qW S m) := by
  obtain ⟨e, rfl, he⟩ := qd h
  have hP := qPC_P hH hp
  obtain ⟨⟨⟨⟨hK, -, hL, hn⟩, ⟨hT, hC, hR, hkk⟩, ⟨p1, p2, p3, p4, p5, p6⟩, hY⟩, hBB⟩, hYC, hFc⟩ := id hH
  obtain ⟨⟨ky, y103, yn⟩, y0, bb, y1, -⟩ := p4.2.1 k hk.1 hk.2
  rw [hb] at y0 bb y1
  obtain ⟨⟨kx, -, -, x103, -⟩, -, -, -, -, -, -, -, -, ⟨x14, -⟩, ⟨x15, -⟩⟩ := hY.2.1 b bb.1 bb.2
  obtain ⟨⟨q13, q15⟩, q16, -, ql, qf⟩ := hp
  obtain ⟨⟨n0, n30⟩, w1, -⟩ := hq
  obtain ⟨y, hy⟩ : ∃ y, zm S 13 k = y := ⟨_, rfl⟩
  obtain ⟨x, hx⟩ : ∃ x, zm S 8 b = x := ⟨_, rfl⟩
  rw [hy] at ky y103 y0 y1 yn
  rw [hx] at kx x103 y1 x14 x15
  have my0 : m y 0 = b := by rw [qf y 0 (qPE_k y103 (fun _ => by decide) (fun q => by rw [ky] at q; exact absurd q (by decide))), y0]
  have my1 : m y 1 = x := by rw [qf y 1 (qPE_k y103 (fun _ => by decide) (fun q => by rw [ky] at q; exact absurd q (by decide))), y1]
  have mx : ∀ j, m x j = zm S x j := fun j => qf x j (qPE_k x103 (fun q => by rw [kx] at q; exact absurd q (by decide)) (fun q => by rw [kx] at q; exact absurd q (by decide)))
  have e12 : m 3 12 = 15 := P_3_12 hP
  have m15 : ∀ j, j ≠ 2 → m 15 j = zm S 15 j := fun j hj => qf 15 j (qPE_lo (by decide) (by omega) (by omega) (by decide))
  have e0 : m 15 0 = 16 := P_15_0 hP
  have e1 : m 15 1 = 17 := P_15_1 hP
  have r14 : ∀ i, m 14 i = zm S 14 i := fun i => qf 14 i (qPE_lo (by decide) (by omega) (by omega) (by decide))
  have nr : qNr (qW S m) := by
    unfold qNr
    show m 3 11 = m 37 76 ∧ 0 ≤ m 37 76 ∧ m 37 76 ≤ 6
    rw [qf 3 11 (qPE_lo (by decide) (by omega) (by omega) (by decide)), qf 37 76 (qPE_lo (by decide) (by omega) (by omega) (by decide))]
    exact p5.1
  have e76 : m 37 76 = zm S 37 76 := qf 37 76 (qPE_lo (by decide) (by omega) (by omega) (by decide))
  obtain ⟨n, hnn⟩ : ∃ n : Nat, p.2.2.2.2.2.1 = (n : Int) := ⟨p.2.2.2.2.2.1.toNat, by omega⟩
  rw [hnn] at q15 q16 w1 n30 ⊢
  rw [show ((n : Int)).toNat = n by omega]
  obtain ⟨rk, hrk⟩ : ∃ rk : Int → Int, (fun w => if w = -1 then -1 else zm S 90 (p.2.2.2.1 w)) = rk := ⟨_, rfl⟩
  have lp : ∀ (g i : Nat) (x5 x6 : zV), i + g = n → zF_171 e 7 [vr 3, vr y, vi (qwf_ (zm S) p b i), vi (rk (qwf_ (zm S) p b i)), vi (i : Int), x5, x6] [] (qW S m) = some (.inl (some (vi (qwf_ (zm S) p b n))), qW S m) := by
    intro g
    induction g with
    | zero =>
      intro i x5 x6 hi
      obtain rfl : i = n := by omega
      rw [b171_7]
      simp (config := { maxSteps := 2000000 }) (disch := first | omega | (simp only [K_3 hK, K_15 hK, e12, qb_in, qkW, qmW, qnW, true_and, and_true, or_self, true_or, or_true, and_self]; done) | (simp only [K_3 hK, K_15 hK, e12, qb_in, qkW, qmW, qnW, true_and, and_true, or_self, true_or, or_true, and_self]; omega)) only [b171_0, b171_19, b171_40, b171_48, b171_61, b171_64, b171_70, b171_77, b171_81, b171_82, b171_89, b171_95, b171_102, b171_111, b171_115, b171_121, qcall_l, qcall_r, qretn_l, qJ_s, qJ_n, qV0, qEx, ↓qif0, ↓zchk_pos, ↓reduceIte, qput, qWW, qmW, qkW, qnW, K_3 hK, K_15 hK, e12, q15, if_neg (show ¬ (i : Int) < i from Int.lt_irrefl _)]
    | succ g ih =>
      intro i x5 x6 hi
      have hlt : (i : Int) < n := Int.ofNat_lt.mpr (by omega)
      have i0 : 0 ≤ (i : Int) := Int.natCast_nonneg i
      have i30 : (i : Int) < 30 := by omega
      obtain ⟨m16, m17⟩ := q16 i i0 hlt
      obtain ⟨⟨r0, r1⟩, -⟩ := w1 i i0 hlt
      have wr := qwf_r_ (zm S) p b i
      have ih := ih (i + 1) vu vu (by omega)
      have i31 : (i : Int) < 2147483647 := by omega
      obtain ⟨r, hr⟩ : ∃ r, p.2.2.2.1 i = r := ⟨_, rfl⟩
      rw [hr] at m16 r0 r1
      have r32 : r < 32 := by have := p5.1.2; omega
      have so := s_isOpenTo e (qW S m) x r p.2.2.2.2.2.2 (by omega) kx ⟨r0, r32⟩
      rw [show zm (qW S m) x 14 = zm S 62 b by show m x 14 = _; rw [mx, x14], show zm (qW S m) x 15 = zm S 63 b by show m x 15 = _; rw [mx, x15]] at so
      have ro := s_readerOf_y e (qW S m) r (by omega) hK hP nr (by show 0 ≤ r ∧ r < m 37 76; rw [e76]; exact ⟨r0, r1⟩)
      rw [show zm (qW S m) 14 r = zm S 14 r from r14 r] at ro
      obtain ⟨⟨kr, -, r103, -⟩, g0, ⟨g1, -⟩, -⟩ := p5.2.1 r r0 r1
      have lr := ql r r0 r1
      have m0 : m (zm S 14 r) 0 = zm S 90 r := by rw [qf _ 0 (qPE_k r103 (fun q => by rw [kr] at q; exact absurd q (by decide)) (fun _ => by decide)), g0]
      obtain ⟨z, hz⟩ : ∃ z, zm S 14 r = z := ⟨_, rfl⟩
      rw [hz] at ro kr lr m0
      obtain ⟨B, hB⟩ : ∃ B, qwf_ (zm S) p b i = B := ⟨_, rfl⟩
      have un : qwf_ (zm S) p b (i + 1) = if qcan (zm S) p b i ∧ (B = -1 ∨ zm S 90 (p.2.2.2.1 B) < zm S 90 r) then (i : Int) else B := by
        subst hr
        subst hB
        rfl
      rw [hB] at wr
      rw [hB, b171_7]
      clear r14 mx m15 w1 q16 ql hYC hFc hBB
      by_cases c1 : p.2.2.2.2.1 i = b
      · by_cases c2 : ¬ p.2.2.2.2.2.2 < zm S 62 b ∨ qbt (zm S 63 b) r = 1
        · rw [if_pos c2] at so
          by_cases c3 : qcv p.1 r (zm S 37 65).toNat < 2
          · have cn : qcan (zm S) p b i := ⟨c1, by rw [hr]; exact c2, by rw [hr]; exact c3⟩
            have rB : rk B < zm S 90 r ↔ (B = -1 ∨ zm S 90 (p.2.2.2.1 B) < zm S 90 r) := by
              rw [← hrk]
              show (if B = -1 then -1 else zm S 90 (p.2.2.2.1 B)) < _ ↔ _
              by_cases q : B = -1
              · rw [if_pos q]; exact ⟨fun _ => Or.inl q, fun _ => by omega⟩
              · rw [if_neg q]; exact ⟨Or.inr, fun z => z.resolve_left q⟩
            by_cases c4 : rk B < zm S 90 r
            · rw [if_pos ⟨cn, rB.mp c4⟩] at un
              have ri : rk (i : Int) = zm S 90 r := by
                rw [← hrk]
                show (if (i : Int) = -1 then -1 else zm S 90 (p.2.2.2.1 i)) = _
                rw [if_neg (by omega), hr]
              rw [un, ri] at ih
              simp (config := { maxSteps := 2000000 }) (disch := first | omega | (simp only [K_3 hK, K_15 hK, K_16 hK, K_17 hK, e12, e0, e1, ky, kx, kr, my1, qb_in, qkW, qmW, qnW, true_and, and_true, or_self, true_or, or_true, and_self]; done) | (simp only [K_3 hK, K_15 hK, K_16 hK, K_17 hK, e12, e0, e1, ky, kx, kr, my1, qb_in, qkW, qmW, qnW, true_and, and_true, or_self, true_or, or_true, and_self]; omega)) only [b171_0, b171_19, b171_40, b171_48, b171_61, b171_64, b171_70, b171_77, b171_81, b171_82, b171_89, b171_95, b171_102, b171_111, b171_115, b171_121, qcall_l, qcall_r, qretn_l, qJ_s, qJ_n, qV0, qEx, ↓qif0, ↓zchk_pos, ↓reduceIte, qput, qWW, qmW, qkW, qnW, K_3 hK, K_15 hK, K_16 hK, K_17 hK, e12, e0, e1, q15, q13, if_pos hlt, m16, m17, my0, my1, ky, kx, if_pos c1, so, ro, kr, lr, if_pos c3, m0, if_pos c4, z32_s i i31, ih, Int.reduceEq]
            · rw [if_neg (fun q => c4 (rB.mpr q.2))] at un
              rw [un] at ih
              simp (config := { maxSteps := 2000000 }) (disch := first | omega | (simp only [K_3 hK, K_15 hK, K_16 hK, K_17 hK, e12, e0, e1, ky, kx, kr, my1, qb_in, qkW, qmW, qnW, true_and, and_true, or_self, true_or, or_true, and_self]; done) | (simp only [K_3 hK, K_15 hK, K_16 hK, K_17 hK, e12, e0, e1, ky, kx, kr, my1, qb_in, qkW, qmW, qnW, true_and, and_true, or_self, true_or, or_true, and_self]; omega)) only [b171_0, b171_19, b171_40, b171_48, b171_61, b171_64, b171_70, b171_77, b171_81, b171_82, b171_89, b171_95, b171_102, b171_111, b171_115, b171_121, qcall_l, qcall_r, qretn_l, qJ_s, qJ_n, qV0, qEx, ↓qif0, ↓zchk_pos, ↓reduceIte, qput, qWW, qmW, qkW, qnW, K_3 hK, K_15 hK, K_16 hK, K_17 hK, e12, e0, e1, q15, q13, if_pos hlt, m16, m17, my0, my1, ky, kx, if_pos c1, so, ro, kr, lr, if_pos c3, m0, if_neg c4, z32_s i i31, ih, Int.reduceEq]
          · rw [if_neg (fun q => c3 (by have := q.1.2.2; rw [hr] at this; exact this))] at un
            rw [un] at ih
            simp (config := { maxSteps := 2000000 }) (disch := first | omega | (simp only [K_3 hK, K_15 hK, K_16 hK, K_17 hK, e12, e0, e1, ky, kx, kr, my1, qb_in, qkW, qmW, qnW, true_and, and_true, or_self, true_or, or_true, and_self]; done) | (simp only [K_3 hK, K_15 hK, K_16 hK, K_17 hK, e12, e0, e1, ky, kx, kr, my1, qb_in, qkW, qmW, qnW, true_and, and_true, or_self, true_or, or_true, and_self]; omega)) only [b171_0, b171_19, b171_40, b171_48, b171_61, b171_64, b171_70, b171_77, b171_81, b171_82, b171_89, b171_95, b171_102, b171_111, b171_115, b171_121, qcall_l, qcall_r, qretn_l, qJ_s, qJ_n, qV0, qEx, ↓qif0, ↓zchk_pos, ↓reduceIte, qput, qWW, qmW, qkW, qnW, K_3 hK, K_15 hK, K_16 hK, K_17 hK, e12, e0, e1, q15, q13, if_pos hlt, m16, m17, my0, my1, ky, kx, if_pos c1, so, ro, kr, lr, if_neg c3, z32_s i i31, ih, Int.reduceEq]
        · rw [if_neg c2] at so
          rw [if_neg (fun q => c2 (by have := q.1.2.1; rw [hr] at this; exact this))] at un
          rw [un] at ih
          simp (config := { maxSteps := 2000000 }) (disch := first | omega | (simp only [K_3 hK, K_15 hK, K_16 hK, K_17 hK, e12, e0, e1, ky, kx, my1, qb_in, qkW, qmW, qnW, true_and, and_true, or_self, true_or, or_true, and_self]; done) | (simp only [K_3 hK, K_15 hK, K_16 hK, K_17 hK, e12, e0, e1, ky, kx, my1, qb_in, qkW, qmW, qnW, true_and, and_true, or_self, true_or, or_true, and_self]; omega)) only [b171_0, b171_19, b171_40, b171_48, b171_61, b171_64, b171_70, b171_77, b171_81, b171_82, b171_89, b171_95, b171_102, b171_111, b171_115, b171_121, qcall_l, qcall_r, qretn_l, qJ_s, qJ_n, qV0, qEx, ↓qif0, ↓zchk_pos, ↓reduceIte, qput, qWW, qmW, qkW, qnW, K_3 hK, K_15 hK, K_16 hK, K_17 hK, e12, e0, e1, q15, q13, if_pos hlt, m16, m17, my0, my1, ky, kx, if_pos c1, so, z32_s i i31, ih, Int.reduceEq]
      · rw [if_neg (fun q => c1 q.1.1)] at un
        rw [un] at ih
        simp (config := { maxSteps := 2000000 }) (disch := first | omega | (simp only [K_3 hK, K_15 hK, K_16 hK, K_17 hK, e12, e0, e1, ky, qb_in, qkW, qmW, qnW, true_and, and_true, or_self, true_or, or_true, and_self]; done) | (simp only [K_3 hK, K_15 hK, K_16 hK, K_17 hK, e12, e0, e1, ky, qb_in, qkW, qmW, qnW, true_and, and_true, or_self, true_or, or_true, and_self]; omega)) only [b171_0, b171_19, b171_40, b171_48, b171_61, b171_64, b171_70, b171_77, b171_81, b171_82, b171_89, b171_95, b171_102, b171_111, b171_115, b171_121, qcall_l, qcall_r, qretn_l, qJ_s, qJ_n, qV0, qEx, ↓qif0, ↓zchk_pos, ↓reduceIte, qput, qWW, qmW, qkW, qnW, K_3 hK, K_15 hK, K_16 hK, K_17 hK, e12, e0, e1, q15, q13, if_pos hlt, m16, m17, my0, ky, if_neg c1, z32_s i i31, ih, Int.reduceEq]
  have l0 := lp n 0 vu vu (by omega)
  have rm : rk (-1) = -1 := by rw [← hrk]; exact if_pos rfl
  have l0 : zF_171 e 7 [vr 3, vr y, vi (-1), vi (rk (-1)), vi 0, vu, vu] [] (qW S m) = some (.inl (some (vi (qwf_ (zm S) p b n))), qW S m) := l0
  rw [rm] at l0
  rw [hy]
  simp (config := { maxSteps := 2000000 }) (disch := first | omega | (simp only [qb_in, qkW, qmW, qnW, true_and, and_true, or_self, true_or, or_true, and_self]; done) | (simp only [qb_in, qkW, qmW, qnW, true_and, and_true, or_self, true_or, or_true, and_self]; omega)) only [zD_171, b171_0, b171_19, b171_40, b171_48, b171_61, b171_64, b171_70, b171_77, b171_81, b171_82, b171_89, b171_95, b171_102, b171_111, b171_115, b171_121, qcall_l, qcall_r, qretn_l, qJ_s, qJ_n, qV0, qEx, ↓qif0, ↓zchk_pos, ↓reduceIte, qput, qWW, qmW, qkW, qnW]
  exact l0
