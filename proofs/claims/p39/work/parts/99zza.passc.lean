/-! Passing days: the class sends copies, day by day. -/
theorem qPC_d {S : zS} {m m3 : Int → Int → Int} {p : qQ} {k w r n y z : Int} (hH : qHC S) (hp : qPC S m p) (hq : qQk (zm S) p) (hk : 0 ≤ k ∧ k < zm S 37 65) (hw : qsw (zm S) p k = w) (hw1 : w ≠ -1) (hn : p.2.2.2.2.2.1 = n) (hr : p.2.2.2.1 w = r) (hy : zm S 13 k = y) (hz : zm S 14 r = z)
    (g1 : m3 15 2 = n - 1) (g2 : ∀ j, j ≠ 2 → m3 15 j = m 15 j) (g3 : m3 16 = qrm (m 16) w n) (g4 : m3 17 = qrm (m 17) w n) (g5 : ∀ j, m3 y j = if j = 8 then z32 (m y 8 + 1) else if j = 7 then p.2.2.2.2.2.2 + 20 else if j = 6 then r else m y j) (g6 : ∀ j, m3 z j = if j = 2 then m z 2 + 1 else m z j) (g7 : ∀ x, x ≠ 15 → x ≠ 16 → x ≠ 17 → x ≠ y → x ≠ z → m3 x = m x) : qPC S m3 (qsd (zm S) p k) := by
  obtain ⟨⟨⟨⟨hK, -, hL, h103⟩, ⟨hT, hC, hR, hkk⟩, ⟨p1, p2, p3, p4, p5, p6⟩, hY⟩, hBB⟩, hYC, hFc⟩ := hH
  have sr := qsw_r (k := k) hq
  rw [hw, hn] at sr
  obtain ⟨w0, sw⟩ := sr
  obtain ⟨wn, pk⟩ := sw hw1
  have w00 : 0 ≤ w := by omega
  obtain ⟨⟨n0, n30⟩, w1, -, -, -, -⟩ := hq
  rw [hn] at n0 n30 w1
  have rr := (w1 w w00 wn).1
  rw [hr] at rr
  obtain ⟨⟨ky, y103, yn⟩, -⟩ := p4.2.1 k hk.1 hk.2
  rw [hy] at ky y103 yn
  obtain ⟨⟨kz, -, z103, -⟩, -⟩ := p5.2.1 r rr.1 rr.2
  rw [hz] at kz z103
  have yz : y ≠ z := qkne ky kz (by decide)
  obtain ⟨⟨q13, q15⟩, q16, q6, ql, qf⟩ := hp
  rw [hn] at q16
  have n65 := p4.1.2
  unfold qsd
  rw [hw, if_neg hw1, hn, hr]
  refine ⟨⟨?_, g1⟩, fun i i1 i2 => ?_, fun i i1 i2 => ?_, fun i i1 i2 => ?_, fun x j hx => ?_⟩
  · show m3 3 13 = p.2.2.2.2.2.2
    rw [g7 3 (by decide) (by decide) (by decide) (by omega) (by omega), q13]
  · have i2 : i < n - 1 := i2
    show m3 16 i = qrm p.2.2.2.1 w n i ∧ m3 17 i = qrm p.2.2.2.2.1 w n i
    rw [g3, g4, qrm_s, qrm_s, qrm_s, qrm_s]
    have g := qsg_r (w := w) (n := n) ⟨i1, i2⟩ w00
    exact q16 _ g.1 g.2
  · show m3 (zm S 13 i) 6 = qse p.1 k r i ∧ m3 (zm S 13 i) 7 = qse p.2.1 k (p.2.2.2.2.2.2 + 20) i ∧ m3 (zm S 13 i) 8 = qse p.2.2.1 k (z32 (p.2.2.1 k + 1)) i
    unfold qse
    by_cases c : i = k
    · subst c
      rw [if_pos rfl, if_pos rfl, if_pos rfl, hy, g5, g5, g5, if_neg (by decide), if_neg (by decide), if_pos rfl, if_neg (by decide), if_pos rfl, if_pos rfl]
      have := (q6 i i1 i2).2.2
      rw [hy] at this
      rw [this]
      exact ⟨rfl, rfl, rfl⟩
    · rw [if_neg c, if_neg c, if_neg c]
      obtain ⟨⟨ki, i103, -⟩, -⟩ := p4.2.1 i i1 i2
      have ne : zm S 13 i ≠ y := by
        rcases Int.lt_or_gt_of_ne c with q | q
        · rw [← hy]; exact p4.2.2 i k i1 q hk.2
        · rw [← hy]; exact Ne.symm (p4.2.2 k i hk.1 q i2)
      rw [g7 _ (by omega) (by omega) (by omega) ne (qkne ki kz (by decide))]
      exact q6 i i1 i2
  · show m3 (zm S 14 i) 2 = qcv (qse p.1 k r) i (zm S 37 65).toNat
    rw [qcv_u (f := p.1) (g := qse p.1 k r) (x := k) (v := r) (b := i) (by rw [pk]; omega) (if_pos rfl) (fun t ht => if_neg ht) hk.1]
    have l := ql i i1 i2
    by_cases c : r = i
    · subst c
      rw [if_pos ⟨rfl, by omega⟩, hz, g6, if_pos rfl, ← l, hz]
    · rw [if_neg (fun q => c q.1), Int.add_zero]
      obtain ⟨⟨ki, -, i103, -⟩, -⟩ := p5.2.1 i i1 i2
      have ne : zm S 14 i ≠ z := by
        rcases Int.lt_or_gt_of_ne c with q | q
        · rw [← hz]; exact Ne.symm (p5.2.2.1 r i rr.1 q i2)
        · rw [← hz]; exact p5.2.2.1 i r i1 q rr.2
      rw [g7 _ (by omega) (by omega) (by omega) (qkne ki ky (by decide)) ne, l]
  · have b := qf x j hx
    by_cases x15 : x = 15
    · subst x15
      rw [g2 j fun q => hx (Or.inr (Or.inl ⟨rfl, q⟩)), b]
    · by_cases x16 : x = 16
      · exact absurd (Or.inr (Or.inr (Or.inl x16))) hx
      · by_cases x17 : x = 17
        · exact absurd (Or.inr (Or.inr (Or.inr (Or.inl x17)))) hx
        · by_cases xy : x = y
          · rw [xy, g5]
            have nj : ¬ (6 ≤ j ∧ j ≤ 8) := fun q => hx (Or.inr (Or.inr (Or.inr (Or.inr ⟨by omega, Or.inl ⟨by rw [xy]; exact ky, q⟩⟩))))
            rw [if_neg (by omega), if_neg (by omega), if_neg (by omega), ← xy, b]
          · by_cases xz : x = z
            · rw [xz, g6, if_neg fun q => hx (Or.inr (Or.inr (Or.inr (Or.inr ⟨by omega, Or.inr ⟨by rw [xz]; exact kz, q⟩⟩)))), ← xz, b]
            · rw [g7 x x15 x16 x17 xy xz, b]
theorem s_sendLoop (e : Nat) (S : zS) (p : qQ) (m0 : Int → Int → Int) (he : 4 ≤ e) (hH : qHC S) (hp : qPC S m0 p) (hq : qQk (zm S) p) (n65 : Nat) (h65 : zm S 37 65 = (n65 : Int)) :
    ∀ (g i : Nat) (m : Int → Int → Int) (x3 x4 : zV), i + g = n65 → qPC S m (qsr (zm S) p i).1 → ∃ m', zF_170 e 4 [vr 3, vi (qsr (zm S) p i).2, vi (i : Int), x3, x4] [] (qW S m) = some (.inl (some (vi (qsr (zm S) p n65).2)), qW S m') ∧ qPC S m' (qsr (zm S) p n65).1 := by
  obtain ⟨⟨⟨⟨hK, -, hL, hn⟩, ⟨hT, hC, hR, hkk⟩, ⟨p1, p2, p3, p4, p5, p6⟩, hY⟩, hBB⟩, hYC, hFc⟩ := id hH
  have n20 : n65 ≤ 20 := by have := p4.1.2; omega
  have e39 := p4.1.1
  rw [h65] at e39
  intro g
  induction g with
  | zero =>
    intro i m x3 x4 hi hm
    obtain rfl : i = n65 := by omega
    refine ⟨m, ?_, hm⟩
    have m39 : m 3 9 = (i : Int) := by rw [hm.2.2.2.2 3 9 (qPE_lo (by decide) (by omega) (by omega) (by decide)), e39]
    rw [b170_4]
    simp (config := { maxSteps := 2000000 }) (disch := first | omega | (simp only [K_3 hK, qb_in, qkW, qmW, qnW, true_and, and_true, or_self, true_or, or_true, and_self]; done) | (simp only [K_3 hK, qb_in, qkW, qmW, qnW, true_and, and_true, or_self, true_or, or_true, and_self]; omega)) only [b170_0, b170_12, b170_27, b170_35, b170_40, b170_43, b170_44, b170_52, b170_70, b170_73, b170_81, b170_99, b170_102, b170_108, qcall_l, qcall_r, qretn_l, qJ_s, qJ_n, qV0, qEx, ↓qif0, ↓zchk_pos, ↓reduceIte, qput, qWW, qmW, qkW, qnW, K_3 hK, m39, if_neg (show ¬ (i : Int) < i from Int.lt_irrefl _)]
  | succ g ih =>
    intro i m x3 x4 hi hm
    have hlt : (i : Int) < n65 := Int.ofNat_lt.mpr (by omega)
    have i0 : 0 ≤ (i : Int) := Int.natCast_nonneg i
    have i20 : (i : Int) < 20 := by omega
    have i31 : (i : Int) < 2147483647 := by omega
    have hk : 0 ≤ (i : Int) ∧ (i : Int) < zm S 37 65 := ⟨i0, by rw [h65]; exact hlt⟩
    have hP := qPC_P hH hm
    obtain ⟨kq, sr0, sr1, -⟩ := qsr_k hq i (by omega)
    obtain ⟨P, hPp⟩ : ∃ P, (qsr (zm S) p i).1 = P := ⟨_, rfl⟩
    obtain ⟨s, hs⟩ : ∃ s, (qsr (zm S) p i).2 = s := ⟨_, rfl⟩
    rw [hPp] at hm kq
    rw [hs] at sr0 sr1
    have n1 : (qsr (zm S) p (i + 1)).1 = qsd (zm S) P i := by rw [← hPp]; rfl
    have n2 : (qsr (zm S) p (i + 1)).2 = s + qsn_ (zm S) P i := by rw [← hPp, ← hs]; rfl
    rw [hs]
    obtain ⟨b, x, y0, w0, t0, P0, ⟨a1, -, a3, -⟩, -, ⟨ky, -, -, y103, -⟩, ⟨-, -, y4⟩, -⟩ := hYC.2.1 i hk.1 hk.2
    obtain ⟨y, hy⟩ : ∃ y, zm S 13 i = y := ⟨_, rfl⟩
    have hyy : y0 = y := by rw [← a3, hy]
    rw [hyy] at ky y103 y4
    clear a3 hyy
    have m39 : m 3 9 = (n65 : Int) := by rw [hm.2.2.2.2 3 9 (qPE_lo (by decide) (by omega) (by omega) (by decide)), e39]
    have m38 : m 3 8 = 13 := P_3_8 hP
    have m13 : m 13 i = y := by rw [hm.2.2.2.2 13 i (qPE_lo (by decide) (by omega) (by omega) (by decide)), hy]
    have my6 : m y 6 = P.1 i := by rw [← hy]; exact (hm.2.2.1 i hk.1 hk.2).1
    have my4 : m y 4 = qhp (zm S) i 160 := by rw [hm.2.2.2.2 y 4 (qPE_k y103 (fun _ => by decide) (fun q => by rw [ky] at q; exact absurd q (by decide))), y4]
    have ih := fun m x3 x4 => ih (i + 1) m x3 x4 (by omega)
    rw [n1, n2] at ih
    -- nothing is sent
    have noth : qsw (zm S) P i = -1 → ∀ x3 x4 : zV, ∃ m', zF_170 e 102 [vr 3, vi s, vi (i : Int), x3, x4] [] (qW S m) = some (.inl (some (vi (qsr (zm S) p n65).2)), qW S m') ∧ qPC S m' (qsr (zm S) p n65).1 := fun hw x3 x4 => by
      have ih := ih m vu vu
      unfold qsd qsn_ at ih
      rw [if_pos hw, if_pos hw, Int.add_zero] at ih
      obtain ⟨m', r, q⟩ := ih hm
      refine ⟨m', ?_, q⟩
      rw [b170_102]
      simp (config := { maxSteps := 2000000 }) (disch := first | omega | (simp only [qb_in, qkW, qmW, qnW, true_and, and_true, or_self, true_or, or_true, and_self]; done) | (simp only [qb_in, qkW, qmW, qnW, true_and, and_true, or_self, true_or, or_true, and_self]; omega)) only [b170_0, b170_12, b170_27, b170_35, b170_40, b170_43, b170_44, b170_52, b170_70, b170_73, b170_81, b170_99, b170_102, b170_108, qcall_l, qcall_r, qretn_l, qJ_s, qJ_n, qV0, qEx, ↓qif0, ↓zchk_pos, ↓reduceIte, qput, qWW, qmW, qkW, qnW, z32_s i i31, r]
    by_cases c1 : P.1 i = -1
    · by_cases c2 : qhp (zm S) i 160 < 2
      · have bw := s_bestWish e S m P i b (by omega) hH hm kq hk a1
        have ew : qsw (zm S) P i = qwf_ (zm S) P b P.2.2.2.2.2.1.toNat := by
          unfold qsw
          rw [if_pos ⟨c1, c2⟩, a1]
        rw [← ew, hy] at bw
        by_cases c3 : qsw (zm S) P i = -1
        · obtain ⟨m', r, q⟩ := noth c3 (vr y) (vi (-1))
          refine ⟨m', ?_, q⟩
          rw [c3] at bw
          rw [b170_4]
          simp (config := { maxSteps := 2000000 }) (disch := first | omega | (simp only [K_3 hK, K_13 hK, m38, m13, ky, qb_in, qkW, qmW, qnW, true_and, and_true, or_self, true_or, or_true, and_self]; done) | (simp only [K_3 hK, K_13 hK, m38, m13, ky, qb_in, qkW, qmW, qnW, true_and, and_true, or_self, true_or, or_true, and_self]; omega)) only [b170_0, b170_12, b170_27, b170_35, b170_40, b170_43, b170_44, b170_52, b170_70, b170_73, b170_81, b170_99, b170_108, qcall_l, qcall_r, qretn_l, qJ_s, qJ_n, qV0, qEx, ↓qif0, ↓zchk_pos, ↓reduceIte, qput, qWW, qmW, qkW, qnW, K_3 hK, K_13 hK, m39, m38, m13, if_pos hlt, ky, my6, if_pos c1, my4, if_pos c2, bw, r, Int.reduceEq]
        · obtain ⟨w, hw⟩ : ∃ w, qsw (zm S) P i = w := ⟨_, rfl⟩
          have wr := qsw_r (k := i) kq
          rw [hw] at wr bw c3
          obtain ⟨wl, -⟩ := wr.2 c3
          have w00 : 0 ≤ w := by omega
          obtain ⟨n, hnn⟩ : ∃ n, P.2.2.2.2.2.1 = n := ⟨_, rfl⟩
          have nk := kq.1
          rw [hnn] at wl nk
          obtain ⟨⟨q13, q15⟩, q16, -, ql, qf⟩ := id hm
          rw [hnn] at q15 q16
          obtain ⟨m16, -⟩ := q16 w w00 wl
          obtain ⟨r, hr⟩ : ∃ r, P.2.2.2.1 w = r := ⟨_, rfl⟩
          rw [hr] at m16
          have rr := (kq.2.1 w w00 (by rw [hnn]; exact wl)).1
          rw [hr] at rr
          have d6 := kq.2.2.2.2.2
          obtain ⟨dy, hdy⟩ : ∃ dy, P.2.2.2.2.2.2 = dy := ⟨_, rfl⟩
          rw [hdy] at d6 q13
          obtain ⟨⟨kz, -, z103, -⟩, -⟩ := p5.2.1 r rr.1 rr.2
          have lz := ql r rr.1 rr.2
          have lb := qcv_r P.1 r (zm S 37 65).toNat
          rw [← lz] at lb
          obtain ⟨z, hz⟩ : ∃ z, zm S 14 r = z := ⟨_, rfl⟩
          rw [hz] at kz z103 lz lb
          have yz : y ≠ z := qkne ky kz (by decide)
          have e12 : m 3 12 = 15 := P_3_12 hP
          have e0 : m 15 0 = 16 := P_15_0 hP
          obtain ⟨M1, hM1⟩ : ∃ M1, qu (qu (qu m y 6 r) y 7 (dy + 20)) y 8 (z32 (m y 8 + 1)) = M1 := ⟨_, rfl⟩
          have i1 : qu (qu m y 6 r) y 7 (dy + 20) y 8 = m y 8 := by rw [qu_i _ _ _ _ _ (by decide), qu_i _ _ _ _ _ (by decide)]
          have sd : zD e 45 [vr y, vi r, vi (dy + 20)] (qW S m) = some (.inl none, qW S M1) := by
            obtain ⟨f, rfl, -⟩ := qd (show 1 ≤ e by omega)
            rw [← hM1]
            simp (config := { maxSteps := 2000000 }) (disch := first | omega | (simp only [ky, i1, qb_in, qkW, qmW, qnW, true_and, and_true, or_self, true_or, or_true, and_self]; done) | (simp only [ky, i1, qb_in, qkW, qmW, qnW, true_and, and_true, or_self, true_or, or_true, and_self]; omega)) only [zD_45, b45_0, b45_16, qcall_l, qcall_r, qretn_l, qJ_s, qJ_n, qV0, qEx, ↓qif0, ↓zchk_pos, ↓reduceIte, qput, qWW, qmW, qkW, qnW, ky, i1]
          have M1y : ∀ j, M1 y j = if j = 8 then z32 (m y 8 + 1) else if j = 7 then dy + 20 else if j = 6 then r else m y j := fun j => by rw [← hM1, qu_row, qu_row, qu_row]
          have M1o : ∀ x, x ≠ y → M1 x = m x := fun x hx => by rw [← hM1, qu_o _ _ _ _ _ hx, qu_o _ _ _ _ _ hx, qu_o _ _ _ _ _ hx]
          have M16 : M1 y 6 = r := by rw [M1y]; rfl
          have hP1 : qP M1 := qP_m (S := qW S m) (S' := qW S M1) hP ⟨⟨Nat.le_refl _, fun _ _ => rfl⟩, fun x j _ hx => by
            show M1 x j = m x j
            rw [M1o x fun q => hx q]⟩ (E := fun x _ => x = y) hn fun x j q => by omega
          have ro := s_readerOf_y e (qW S M1) r (by omega) hK hP1 (by
            unfold qNr
            show M1 3 11 = M1 37 76 ∧ 0 ≤ M1 37 76 ∧ M1 37 76 ≤ 6
            rw [M1o 3 (by omega), M1o 37 (by omega), qf 3 11 (qPE_lo (by decide) (by omega) (by omega) (by decide)), qf 37 76 (qPE_lo (by decide) (by omega) (by omega) (by decide))]
            exact p5.1) (by
            show 0 ≤ r ∧ r < M1 37 76
            rw [M1o 37 (by omega), qf 37 76 (qPE_lo (by decide) (by omega) (by omega) (by decide))]
            exact rr)
          rw [show zm (qW S M1) 14 r = z by show M1 14 r = _; rw [M1o 14 (by omega), qf 14 r (qPE_lo (by decide) (by omega) (by omega) (by decide)), hz]] at ro
          have z2 : z32 (M1 z 2 + 1) = m z 2 + 1 := by rw [M1o z (Ne.symm yz)]; exact q32 (by omega)
          obtain ⟨M2, hM2⟩ : ∃ M2, qu M1 z 2 (m z 2 + 1) = M2 := ⟨_, rfl⟩
          have M2o : ∀ x, x ≠ z → M2 x = M1 x := fun x hx => by rw [← hM2, qu_o _ _ _ _ _ hx]
          have M2z : ∀ j, M2 z j = if j = 2 then m z 2 + 1 else m z j := fun j => by rw [← hM2, qu_row, M1o z (Ne.symm yz)]
          have hP2 : qP M2 := qP_m (S := qW S M1) (S' := qW S M2) hP1 ⟨⟨Nat.le_refl _, fun _ _ => rfl⟩, fun x j _ hx => by
            show M2 x j = M1 x j
            rw [M2o x fun q => hx q]⟩ (E := fun x _ => x = z) hn fun x j q => by omega
          have f12 : M2 3 12 = 15 := P_3_12 hP2
          have r152 : M2 15 2 = n := by rw [M2o 15 (by omega), M1o 15 (by omega), q15]
          obtain ⟨m3, rr3, g1, g2, g3, g4, g5⟩ := s_wishRemove e (qW S M2) w n (by omega) hK hP2 r152 ⟨w00, wl, nk.2⟩
          have lo2 : ∀ x, x < 103 → M2 x = m x := fun x hx => by rw [M2o x (by omega), M1o x (by omega)]
          have hm3 : qPC S m3 (qsd (zm S) P i) := qPC_d hH hm kq hk hw c3 hnn hr hy hz g1 (fun j hj => by rw [g2 j hj]; show M2 15 j = _; rw [lo2 15 (by decide)]) (by rw [g3]; show qrm (M2 16) w n = _; rw [lo2 16 (by decide)]) (by rw [g4]; show qrm (M2 17) w n = _; rw [lo2 17 (by decide)]) (fun j => by
            rw [g5 y (by omega) (by omega) (by omega)]
            show M2 y j = _
            rw [M2o y yz, M1y, hdy]) (fun j => by
            rw [g5 z (by omega) (by omega) (by omega)]
            exact M2z j) (fun x h1 h2 h3 h4 h5 => by
            rw [g5 x h1 h2 h3]
            show M2 x = _
            rw [M2o x h5, M1o x h4])
          have ih := ih m3 vu vu
          unfold qsn_ at ih
          rw [if_neg (show ¬ qsw (zm S) P i = -1 by rw [hw]; exact c3)] at ih
          obtain ⟨m', rl, q⟩ := ih hm3
          refine ⟨m', ?_, q⟩
          have w30 : w < 30 := by omega
          rw [b170_4]
          clear ih noth hq kq qf ql q16 M1y M2z hYC hBB hFc p1 p2 p3 p4 p5 p6
          simp (config := { maxSteps := 2000000 }) (disch := first | omega | (simp only [K_3 hK, K_13 hK, K_15 hK, K_16 hK, m38, m13, ky, e12, e0, w00, w30, M16, kz, f12, qb_in, qkW, qmW, qnW, true_and, and_true, or_self, true_or, or_true, and_self]; done) | (simp only [K_3 hK, K_13 hK, K_15 hK, K_16 hK, m38, m13, ky, e12, e0, w00, w30, M16, kz, f12, qb_in, qkW, qmW, qnW, true_and, and_true, or_self, true_or, or_true, and_self]; omega)) only [b170_0, b170_12, b170_27, b170_35, b170_40, b170_43, b170_44, b170_52, b170_70, b170_73, b170_81, b170_99, b170_108, qcall_l, qcall_r, qretn_l, qJ_s, qJ_n, qV0, qEx, ↓qif0, ↓zchk_pos, ↓reduceIte, qput, qWW, qmW, qkW, qnW, K_3 hK, K_13 hK, K_15 hK, K_16 hK, m39, m38, m13, if_pos hlt, ky, my6, if_pos c1, my4, if_pos c2, bw, if_neg c3, e12, e0, m16, q13, q32 (x := dy + 20) ⟨by omega, by omega⟩, sd, M16, ro, kz, z2, hM2, f12, rr3]
          rw [b170_102]
          simp (config := { maxSteps := 2000000 }) (disch := first | omega | (simp only [qb_in, qkW, qmW, qnW, true_and, and_true, or_self, true_or, or_true, and_self]; done) | (simp only [qb_in, qkW, qmW, qnW, true_and, and_true, or_self, true_or, or_true, and_self]; omega)) only [b170_0, b170_12, b170_27, b170_35, b170_40, b170_43, b170_44, b170_52, b170_70, b170_73, b170_81, b170_99, b170_108, qcall_l, qcall_r, qretn_l, qJ_s, qJ_n, qV0, qEx, ↓qif0, ↓zchk_pos, ↓reduceIte, qput, qWW, qmW, qkW, qnW, q32 (x := s + 1) ⟨by omega, by omega⟩, z32_s i i31, rl]
      · have hw : qsw (zm S) P i = -1 := by
          unfold qsw
          rw [if_neg fun q => c2 q.2]
        obtain ⟨m', r, q⟩ := noth hw (vr y) (vi (-1))
        refine ⟨m', ?_, q⟩
        rw [b170_4]
        simp (config := { maxSteps := 2000000 }) (disch := first | omega | (simp only [K_3 hK, K_13 hK, m38, m13, ky, qb_in, qkW, qmW, qnW, true_and, and_true, or_self, true_or, or_true, and_self]; done) | (simp only [K_3 hK, K_13 hK, m38, m13, ky, qb_in, qkW, qmW, qnW, true_and, and_true, or_self, true_or, or_true, and_self]; omega)) only [b170_0, b170_12, b170_27, b170_35, b170_40, b170_43, b170_44, b170_52, b170_70, b170_73, b170_81, b170_99, b170_108, qcall_l, qcall_r, qretn_l, qJ_s, qJ_n, qV0, qEx, ↓qif0, ↓zchk_pos, ↓reduceIte, qput, qWW, qmW, qkW, qnW, K_3 hK, K_13 hK, m39, m38, m13, if_pos hlt, ky, my6, if_pos c1, my4, if_neg c2, r, Int.reduceEq]
    · have hw : qsw (zm S) P i = -1 := by
        unfold qsw
        rw [if_neg fun q => c1 q.1]
      obtain ⟨m', r, q⟩ := noth hw (vr y) (vi (-1))
      refine ⟨m', ?_, q⟩
      rw [b170_4]
      simp (config := { maxSteps := 2000000 }) (disch := first | omega | (simp only [K_3 hK, K_13 hK, m38, m13, ky, qb_in, qkW, qmW, qnW, true_and, and_true, or_self, true_or, or_true, and_self]; done) | (simp only [K_3 hK, K_13 hK, m38, m13, ky, qb_in, qkW, qmW, qnW, true_and, and_true, or_self, true_or, or_true, and_self]; omega)) only [b170_0, b170_12, b170_27, b170_35, b170_40, b170_43, b170_44, b170_52, b170_70, b170_73, b170_81, b170_99, b170_108, qcall_l, qcall_r, qretn_l, qJ_s, qJ_n, qV0, qEx, ↓qif0, ↓zchk_pos, ↓reduceIte, qput, qWW, qmW, qkW, qnW, K_3 hK, K_13 hK, m39, m38, m13, if_pos hlt, ky, my6, if_neg c1, r, Int.reduceEq]
