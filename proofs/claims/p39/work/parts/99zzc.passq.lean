/-! Passing days: both. -/
theorem r_sends (d : Nat) (S : zS) (m1 m : Int → Int → Int) (p : qQ) (k : Int) (h : 4 ≤ d) (hH : qHC S) (hP1 : qP m1) (hB : qPB S m1) (hp : qPR m1 m p) (hq : qQk (zm S) p) (hk : 0 ≤ k ∧ k < zm S 37 65) : ∃ m', zD d 299 [vr 37, vi k] (qW S m) = some (.inl (some (vi (qsn_ (zm S) p k))), qW S m') ∧ qPR m1 m' (qsd (zm S) p k) := by
  obtain ⟨e, rfl, he⟩ := qd h
  have hP := qPB_P (S := S) hP1 hp
  have hK := hH.1.1.1.1
  have n65 := hH.1.1.2.2.1.2.2.2.1.1.2
  have k20 : 0 ≤ k ∧ k < 20 := by omega
  obtain ⟨b, hb⟩ : ∃ b, zm S 82 k = b := ⟨_, rfl⟩
  have wf := r_wishFor e S m1 m p k b (by omega) hH hP1 hB hp hq hk hb
  have hg := r_hurtPages e (qW S m) k (by omega) hK hP k20
  obtain ⟨⟨q86, q87, q88⟩, ⟨q93, q94⟩, ⟨q80, q3⟩, qf⟩ := id hp
  rw [show qhp (zm (qW S m)) k 160 = qhp (zm S) k 160 by
    refine qhp_e k 160 fun i _ => ?_
    show m 85 _ = _
    rw [qf 85 _ (by unfold qRE; omega), hB.1 85 (by omega)]] at hg
  have e70 := P_37_70 hP
  have e71 := P_37_71 hP
  have e72 := P_37_72 hP
  have e81 := P_37_81 hP
  have e82 := P_37_82 hP
  have m86 : m 86 k = p.1 k := by rw [q86]
  have wr := qsw_r (k := k) hq
  have noth : qsw (zm S) p k = -1 → qsn_ (zm S) p k = 0 ∧ qsd (zm S) p k = p := fun c => by
    unfold qsn_ qsd
    rw [if_pos c, if_pos c]
    exact ⟨rfl, rfl⟩
  by_cases c1 : p.1 k = -1
  · by_cases c2 : qhp (zm S) k 160 < 2
    · have ew : qsw (zm S) p k = qwf_ (zm S) p b p.2.2.2.2.2.1.toNat := by
        unfold qsw
        rw [if_pos ⟨c1, c2⟩, hb]
      rw [← ew] at wf
      by_cases c3 : qsw (zm S) p k = -1
      · obtain ⟨t1, t2⟩ := noth c3
        rw [t1, t2]
        rw [c3] at wf
        refine ⟨m, ?_, hp⟩
        simp (config := { maxSteps := 2000000 }) (disch := first | omega | (simp only [K_37 hK, K_86 hK, e70, k20.1, k20.2, qb_in, qkW, qmW, qnW, true_and, and_true, or_self, true_or, or_true, and_self]; done) | (simp only [K_37 hK, K_86 hK, e70, k20.1, k20.2, qb_in, qkW, qmW, qnW, true_and, and_true, or_self, true_or, or_true, and_self]; omega)) only [zD_299, b299_0, b299_10, b299_15, b299_19, b299_24, b299_27, b299_28, b299_34, b299_36, b299_52, b299_67, b299_81, b299_91, b299_105, b299_119, b299_125, qcall_l, qcall_r, qretn_l, qJ_s, qJ_n, qV0, qEx, ↓qif0, ↓zchk_pos, ↓reduceIte, qput, qWW, qmW, qkW, qnW, K_37 hK, K_86 hK, e70, m86, if_pos c1, hg, if_pos c2, wf, Int.reduceEq]
      · obtain ⟨wl, -⟩ := wr.2 c3
        have w00 : 0 ≤ qsw (zm S) p k := by omega
        have n1 : qsn_ (zm S) p k = 1 := by unfold qsn_; rw [if_neg c3]
        have nd : qsd (zm S) p k = (qse p.1 k (p.2.2.2.1 (qsw (zm S) p k)), qse p.2.1 k (p.2.2.2.2.2.2 + 20), qse p.2.2.1 k (z32 (p.2.2.1 k + 1)), qrm p.2.2.2.1 (qsw (zm S) p k) p.2.2.2.2.2.1, qrm p.2.2.2.2.1 (qsw (zm S) p k) p.2.2.2.2.2.1, p.2.2.2.2.2.1 - 1, p.2.2.2.2.2.2) := by unfold qsd; rw [if_neg c3]
        rw [n1, nd]
        obtain ⟨w, hw⟩ : ∃ w, qsw (zm S) p k = w := ⟨_, rfl⟩
        rw [hw] at wl w00 wf c3 ⊢
        obtain ⟨⟨n0, n30⟩, -, -, -, -, d6⟩ := hq
        obtain ⟨n, hnn⟩ : ∃ n, p.2.2.2.2.2.1 = n := ⟨_, rfl⟩
        rw [hnn] at wl n0 n30 q80 ⊢
        obtain ⟨dy, hdy⟩ : ∃ dy, p.2.2.2.2.2.2 = dy := ⟨_, rfl⟩
        rw [hdy] at q3 d6 ⊢
        obtain ⟨r, hr⟩ : ∃ r, p.2.2.2.1 w = r := ⟨_, rfl⟩
        rw [hr]
        have m93 : m 93 w = r := by rw [q93, hr]
        have w30 : w < 30 := by omega
        have zd : z32 (dy + 20) = dy + 20 := q32 (by omega)
        have zn : z32 (n - 1) = n - 1 := q32 (by omega)
        obtain ⟨A1, hA1⟩ : ∃ A1, qu m 86 k r = A1 := ⟨_, rfl⟩
        have a1 : A1 37 = m 37 := by rw [← hA1]; exact qu_o _ _ _ _ _ (by decide)
        obtain ⟨A2, hA2⟩ : ∃ A2, qu A1 87 k (dy + 20) = A2 := ⟨_, rfl⟩
        have a2 : A2 37 = m 37 := by rw [← hA2, qu_o _ _ _ _ _ (by decide), a1]
        have a288 : A2 88 k = p.2.2.1 k := by rw [← hA2, qu_o _ _ _ _ _ (by decide), ← hA1, qu_o _ _ _ _ _ (by decide), q88]
        obtain ⟨A3, hA3⟩ : ∃ A3, qu A2 88 k (z32 (p.2.2.1 k + 1)) = A3 := ⟨_, rfl⟩
        have a3 : A3 37 = m 37 := by rw [← hA3, qu_o _ _ _ _ _ (by decide), a2]
        obtain ⟨A4, hA4⟩ : ∃ A4, qu A3 37 80 (n - 1) = A4 := ⟨_, rfl⟩
        have f80 : A4 37 80 = n - 1 := by rw [← hA4, qu_s]
        have f37 : ∀ j, j ≠ 80 → A4 37 j = m 37 j := fun j hj => by rw [← hA4, qu_i _ _ _ _ _ hj, a3]
        have fo : ∀ x, x ≠ 37 → x ≠ 86 → x ≠ 87 → x ≠ 88 → A4 x = m x := fun x h1 h2 h3 h4 => by rw [← hA4, qu_o _ _ _ _ _ h1, ← hA3, qu_o _ _ _ _ _ h4, ← hA2, qu_o _ _ _ _ _ h3, ← hA1, qu_o _ _ _ _ _ h2]
        have f86 : A4 86 = qse p.1 k r := funext fun i => by
          rw [← hA4, qu_o _ _ _ _ _ (by decide), ← hA3, qu_o _ _ _ _ _ (by decide), ← hA2, qu_o _ _ _ _ _ (by decide), ← hA1, qu_row, q86]
          rfl
        have f87 : A4 87 = qse p.2.1 k (dy + 20) := funext fun i => by
          rw [← hA4, qu_o _ _ _ _ _ (by decide), ← hA3, qu_o _ _ _ _ _ (by decide), ← hA2, qu_row, ← hA1, qu_o _ _ _ _ _ (by decide), q87]
          rfl
        have f88 : A4 88 = qse p.2.2.1 k (z32 (p.2.2.1 k + 1)) := funext fun i => by
          rw [← hA4, qu_o _ _ _ _ _ (by decide), ← hA3, qu_row, ← hA2, qu_o _ _ _ _ _ (by decide), ← hA1, qu_o _ _ _ _ _ (by decide), q88]
          rfl
        have g81 : A4 37 81 = 93 := by rw [f37 81 (by decide), e81]
        have g82 : A4 37 82 = 94 := by rw [f37 82 (by decide), e82]
        have lp : ∀ (g : Nat) (i : Int) (M : Int → Int → Int) (x1 x2 : zV), w ≤ i → i + g = n - 1 → (∀ q, M 93 q = if w ≤ q ∧ q < i then m 93 (q + 1) else m 93 q) → (∀ q, M 94 q = if w ≤ q ∧ q < i then m 94 (q + 1) else m 94 q) → (∀ x, x ≠ 93 → x ≠ 94 → M x = A4 x) →
            ∃ m', zF_299 e 83 [vr 37, x1, x2, vi i] [] (qW S M) = some (.inl (some (vi 1)), qW S m') ∧ m' 93 = qrm (m 93) w n ∧ m' 94 = qrm (m 94) w n ∧ ∀ x, x ≠ 93 → x ≠ 94 → m' x = A4 x := by
          intro g
          induction g with
          | zero =>
            intro i M x1 x2 hi hg h1 h2 h3
            have hi2 : i = n - 1 := by omega
            refine ⟨M, ?_, funext fun q => by rw [h1, hi2]; rfl, funext fun q => by rw [h2, hi2]; rfl, h3⟩
            have M80 : M 37 80 = n - 1 := by rw [h3 37 (by decide) (by decide), f80]
            rw [b299_83]
            simp (config := { maxSteps := 2000000 }) (disch := first | omega | (simp only [K_37 hK, qb_in, qkW, qmW, qnW, true_and, and_true, or_self, true_or, or_true, and_self]; done) | (simp only [K_37 hK, qb_in, qkW, qmW, qnW, true_and, and_true, or_self, true_or, or_true, and_self]; omega)) only [b299_0, b299_10, b299_15, b299_19, b299_24, b299_27, b299_28, b299_34, b299_36, b299_52, b299_67, b299_81, b299_91, b299_105, b299_119, b299_125, qcall_l, qcall_r, qretn_l, qJ_s, qJ_n, qV0, qEx, ↓qif0, ↓zchk_pos, ↓reduceIte, qput, qWW, qmW, qkW, qnW, K_37 hK, M80, if_neg (show ¬ i < n - 1 by omega)]
          | succ g ih =>
            intro i M x1 x2 hi hg h1 h2 h3
            have M80 : M 37 80 = n - 1 := by rw [h3 37 (by decide) (by decide), f80]
            have M81 : M 37 81 = 93 := by rw [h3 37 (by decide) (by decide), g81]
            have M82 : M 37 82 = 94 := by rw [h3 37 (by decide) (by decide), g82]
            obtain ⟨M1, hM1⟩ : ∃ M1, qu M 93 i (M 93 (i + 1)) = M1 := ⟨_, rfl⟩
            have s37 : M1 37 = M 37 := by rw [← hM1, qu_o _ _ _ _ _ (by decide)]
            have s94 : M1 94 = M 94 := by rw [← hM1, qu_o _ _ _ _ _ (by decide)]
            have s82 : M1 37 82 = 94 := by rw [s37, M82]
            obtain ⟨m', r, z⟩ := ih (i + 1) (qu M1 94 i (M 94 (i + 1))) vu vu (by omega) (by omega) (fun q => by
              rw [qu_o _ _ _ _ _ (by decide), ← hM1, qu_row]
              show (if q = i then M 93 (i + 1) else M 93 q) = _
              rw [h1 (i + 1), h1 q, if_neg (show ¬ (w ≤ i + 1 ∧ i + 1 < i) by omega)]
              by_cases c : q = i
              · rw [if_pos c, if_pos (by omega), c]
              · rw [if_neg c]
                by_cases c2 : w ≤ q ∧ q < i
                · rw [if_pos c2, if_pos (by omega)]
                · rw [if_neg c2, if_neg (by omega)]) (fun q => by
              rw [qu_row]
              show (if q = i then M 94 (i + 1) else M1 94 q) = _
              rw [s94, h2 (i + 1), h2 q, if_neg (show ¬ (w ≤ i + 1 ∧ i + 1 < i) by omega)]
              by_cases c : q = i
              · rw [if_pos c, if_pos (by omega), c]
              · rw [if_neg c]
                by_cases c2 : w ≤ q ∧ q < i
                · rw [if_pos c2, if_pos (by omega)]
                · rw [if_neg c2, if_neg (by omega)]) (fun x x1 x2 => by rw [qu_o _ _ _ _ _ x2, ← hM1, qu_o _ _ _ _ _ x1, h3 x x1 x2])
            refine ⟨m', ?_, z⟩
            rw [b299_83]
            simp (config := { maxSteps := 2000000 }) (disch := first | omega | (simp only [K_37 hK, K_93 hK, K_94 hK, M80, M81, M82, s82, qb_in, qkW, qmW, qnW, true_and, and_true, or_self, true_or, or_true, and_self]; done) | (simp only [K_37 hK, K_93 hK, K_94 hK, M80, M81, M82, s82, qb_in, qkW, qmW, qnW, true_and, and_true, or_self, true_or, or_true, and_self]; omega)) only [b299_0, b299_10, b299_15, b299_19, b299_24, b299_27, b299_28, b299_34, b299_36, b299_52, b299_67, b299_81, b299_91, b299_105, b299_119, b299_125, qcall_l, qcall_r, qretn_l, qJ_s, qJ_n, qV0, qEx, ↓qif0, ↓zchk_pos, ↓reduceIte, qput, qWW, qmW, qkW, qnW, K_37 hK, K_93 hK, K_94 hK, M80, M81, M82, if_pos (show i < n - 1 by omega), q32 (x := i + 1) ⟨by omega, by omega⟩, hM1, s82, s94, r]
        obtain ⟨m', rl, g1, g2, g3⟩ := lp (n - 1 - w).toNat w A4 vu vu (Int.le_refl _) (by omega) (fun q => by rw [fo 93 (by decide) (by decide) (by decide) (by decide), if_neg (by omega)]) (fun q => by rw [fo 94 (by decide) (by decide) (by decide) (by decide), if_neg (by omega)]) (fun _ _ _ => rfl)
        have rl2 : ∀ x1 x2, zF_299 e 83 [vr 37, x1, x2, vi w] [] (qW S A4) = some (.inl (some (vi 1)), qW S m') := fun x1 x2 => by
          rw [b299_83] at rl ⊢
          exact rl
        have a171 : A1 37 71 = 87 := by rw [a1, e71]
        have a13 : A1 37 3 = dy := by rw [a1, q3]
        have a272 : A2 37 72 = 88 := by rw [a2, e72]
        have a380 : A3 37 80 = n := by rw [a3, q80]
        refine ⟨m', ?_, ⟨?_, ?_, ?_⟩, ⟨?_, ?_⟩, ⟨?_, ?_⟩, fun z j hz => ?_⟩
        · clear lp rl g1 g2 g3 f86 f87 f88 f37 fo noth wr hp qf
          simp (config := { maxSteps := 2000000 }) (disch := first | omega | (simp only [K_37 hK, K_86 hK, K_87 hK, K_88 hK, K_93 hK, e70, e81, k20.1, k20.2, w00, w30, a171, a272, qb_in, qkW, qmW, qnW, true_and, and_true, or_self, true_or, or_true, and_self]; done) | (simp only [K_37 hK, K_86 hK, K_87 hK, K_88 hK, K_93 hK, e70, e81, k20.1, k20.2, w00, w30, a171, a272, qb_in, qkW, qmW, qnW, true_and, and_true, or_self, true_or, or_true, and_self]; omega)) only [zD_299, b299_0, b299_10, b299_15, b299_19, b299_24, b299_27, b299_28, b299_34, b299_36, b299_52, b299_67, b299_81, b299_91, b299_105, b299_119, b299_125, qcall_l, qcall_r, qretn_l, qJ_s, qJ_n, qV0, qEx, ↓qif0, ↓zchk_pos, ↓reduceIte, qput, qWW, qmW, qkW, qnW, K_37 hK, K_86 hK, K_87 hK, K_88 hK, K_93 hK, e70, e81, m86, if_pos c1, hg, if_pos c2, wf, if_neg c3, m93, hA1, a171, a13, zd, hA2, a272, a288, hA3, a380, zn, hA4, rl2]
        · show m' 86 = _
          rw [g3 86 (by decide) (by decide), f86]
        · show m' 87 = _
          rw [g3 87 (by decide) (by decide), f87]
        · show m' 88 = _
          rw [g3 88 (by decide) (by decide), f88]
        · show m' 93 = _
          rw [g1, q93]
        · show m' 94 = _
          rw [g2, q94]
        · show m' 37 80 = _
          rw [g3 37 (by decide) (by decide), f80]
        · show m' 37 3 = _
          rw [g3 37 (by decide) (by decide), f37 3 (by decide), q3]
        · have hz0 := hz
          unfold qRE at hz
          by_cases c37 : z = 37
          · subst c37
            rw [g3 37 (by decide) (by decide), f37 j (by omega), qf 37 j hz0]
          · rw [g3 z (by omega) (by omega), fo z c37 (by omega) (by omega) (by omega), qf z j hz0]
    · obtain ⟨t1, t2⟩ := noth (by unfold qsw; rw [if_neg fun q => c2 q.2])
      rw [t1, t2]
      refine ⟨m, ?_, hp⟩
      simp (config := { maxSteps := 2000000 }) (disch := first | omega | (simp only [K_37 hK, K_86 hK, e70, k20.1, k20.2, qb_in, qkW, qmW, qnW, true_and, and_true, or_self, true_or, or_true, and_self]; done) | (simp only [K_37 hK, K_86 hK, e70, k20.1, k20.2, qb_in, qkW, qmW, qnW, true_and, and_true, or_self, true_or, or_true, and_self]; omega)) only [zD_299, b299_0, b299_10, b299_15, b299_19, b299_24, b299_27, b299_28, b299_34, b299_36, b299_52, b299_67, b299_81, b299_91, b299_105, b299_119, b299_125, qcall_l, qcall_r, qretn_l, qJ_s, qJ_n, qV0, qEx, ↓qif0, ↓zchk_pos, ↓reduceIte, qput, qWW, qmW, qkW, qnW, K_37 hK, K_86 hK, e70, m86, if_pos c1, hg, if_neg c2, Int.reduceEq]
  · obtain ⟨t1, t2⟩ := noth (by unfold qsw; rw [if_neg fun q => c1 q.1])
    rw [t1, t2]
    refine ⟨m, ?_, hp⟩
    simp (config := { maxSteps := 2000000 }) (disch := first | omega | (simp only [K_37 hK, K_86 hK, e70, k20.1, k20.2, qb_in, qkW, qmW, qnW, true_and, and_true, or_self, true_or, or_true, and_self]; done) | (simp only [K_37 hK, K_86 hK, e70, k20.1, k20.2, qb_in, qkW, qmW, qnW, true_and, and_true, or_self, true_or, or_true, and_self]; omega)) only [zD_299, b299_0, b299_10, b299_15, b299_19, b299_24, b299_27, b299_28, b299_34, b299_36, b299_52, b299_67, b299_81, b299_91, b299_105, b299_119, b299_125, qcall_l, qcall_r, qretn_l, qJ_s, qJ_n, qV0, qEx, ↓qif0, ↓zchk_pos, ↓reduceIte, qput, qWW, qmW, qkW, qnW, K_37 hK, K_86 hK, e70, m86, if_neg c1, Int.reduceEq]
theorem r_passIn (e : Nat) (S : zS) (m1 : Int → Int → Int) (p : qQ) (n T : Int) (a : Nat) (he : 4 ≤ e) (hH : qHC S) (hP1 : qP m1) (hB : qPB S m1) (hq : qQk (zm S) p) (n65 : Nat) (h65 : zm S 37 65 = (n65 : Int)) (hT : 0 ≤ T ∧ T ≤ 10000) (ha : a ≤ 1000) :
    ∀ (g i : Nat) (m : Int → Int → Int), i + g = n65 → qPR m1 m (qsr (zm S) p i).1 → ∃ m', zF_300 e 62 [vr 37, vi n, vi (T + (qsr (zm S) p i).2), vi (a : Int), vi (i : Int)] [] (qW S m) = zF_300 e 44 [vr 37, vi n, vi (T + (qsr (zm S) p n65).2), vi ((a + 1 : Nat) : Int), vu] [] (qW S m') ∧ qPR m1 m' (qsr (zm S) p n65).1 := by
  have hK := hH.1.1.1.1
  have n20 : n65 ≤ 20 := by have := hH.1.1.2.2.1.2.2.2.1.1.2; omega
  intro g
  induction g with
  | zero =>
    intro i m hi hm
    obtain rfl : i = n65 := by omega
    refine ⟨m, ?_, hm⟩
    have e65 : m 37 65 = (i : Int) := by rw [hm.2.2.2 37 65 (by unfold qRE; omega), hB.2 65 (by decide) (by decide) (by decide), h65]
    rw [b300_62]
    simp (config := { maxSteps := 2000000 }) (disch := first | omega | (simp only [K_37 hK, qb_in, qkW, qmW, qnW, true_and, and_true, or_self, true_or, or_true, and_self]; done) | (simp only [K_37 hK, qb_in, qkW, qmW, qnW, true_and, and_true, or_self, true_or, or_true, and_self]; omega)) only [b300_0, b300_8, b300_11, b300_15, b300_27, b300_31, b300_32, b300_35, b300_38, b300_40, b300_49, b300_71, b300_78, b300_86, b300_92, qcall_l, qcall_r, qretn_l, qJ_s, qJ_n, qV0, qEx, ↓qif0, ↓zchk_pos, ↓reduceIte, qput, qWW, qmW, qkW, qnW, K_37 hK, e65, if_neg (show ¬ (i : Int) < i from Int.lt_irrefl _), z32_s a (by omega)]
  | succ g ih =>
    intro i m hi hm
    have hlt : (i : Int) < n65 := Int.ofNat_lt.mpr (by omega)
    have e65 : m 37 65 = (n65 : Int) := by rw [hm.2.2.2 37 65 (by unfold qRE; omega), hB.2 65 (by decide) (by decide) (by decide), h65]
    obtain ⟨kq, s0, s1, -⟩ := qsr_k hq i (by omega)
    obtain ⟨kq2, t0, t1, -⟩ := qsr_k hq (i + 1) (by omega)
    obtain ⟨m', r, q⟩ := r_sends e S m1 m (qsr (zm S) p i).1 i (by omega) hH hP1 hB hm kq ⟨by omega, by rw [h65]; exact hlt⟩
    obtain ⟨m2, r2, q2⟩ := ih (i + 1) m' (by omega) q
    refine ⟨m2, ?_, q2⟩
    have es : (qsr (zm S) p (i + 1)).2 = (qsr (zm S) p i).2 + qsn_ (zm S) (qsr (zm S) p i).1 i := rfl
    rw [es] at r2 t0 t1
    rw [b300_62]
    simp (config := { maxSteps := 2000000 }) (disch := first | omega | (simp only [K_37 hK, qb_in, qkW, qmW, qnW, true_and, and_true, or_self, true_or, or_true, and_self]; done) | (simp only [K_37 hK, qb_in, qkW, qmW, qnW, true_and, and_true, or_self, true_or, or_true, and_self]; omega)) only [b300_0, b300_8, b300_11, b300_15, b300_27, b300_31, b300_32, b300_35, b300_38, b300_40, b300_49, b300_71, b300_78, b300_86, b300_92, qcall_l, qcall_r, qretn_l, qJ_s, qJ_n, qV0, qEx, ↓qif0, ↓zchk_pos, ↓reduceIte, qput, qWW, qmW, qkW, qnW, K_37 hK, e65, if_pos hlt, r, q32 (x := T + (qsr (zm S) p i).2 + qsn_ (zm S) (qsr (zm S) p i).1 i) ⟨by omega, by omega⟩, z32_s i (by omega)]
    rw [← r2, Int.add_assoc]
theorem r_passOut (e : Nat) (S : zS) (m1 : Int → Int → Int) (p : qQ) (n : Nat) (he : 4 ≤ e) (hH : qHC S) (hP1 : qP m1) (hB : qPB S m1) (hq : qQk (zm S) p) (hn : n ≤ 100) (hd : p.2.2.2.2.2.2 + n ≤ 1000) :
    ∀ (g i : Nat) (m : Int → Int → Int) (x4 : zV), i + g = n → qPR m1 m (qds (zm S) p i).1 → ∃ m', zF_300 e 44 [vr 37, vi (n : Int), vi (qds (zm S) p i).2, vi (i : Int), x4] [] (qW S m) = some (.inl (some (vi (qds (zm S) p n).2)), qW S m') ∧ qPR m1 m' (qds (zm S) p n).1 := by
  have hK := hH.1.1.1.1
  have n65 := hH.1.1.2.2.1.2.2.2.1.1.2
  intro g
  induction g with
  | zero =>
    intro i m x4 hi hm
    obtain rfl : i = n := by omega
    refine ⟨m, ?_, hm⟩
    rw [b300_44]
    simp (config := { maxSteps := 2000000 }) (disch := first | omega | (simp only [qb_in, qkW, qmW, qnW, true_and, and_true, or_self, true_or, or_true, and_self]; done) | (simp only [qb_in, qkW, qmW, qnW, true_and, and_true, or_self, true_or, or_true, and_self]; omega)) only [b300_0, b300_8, b300_11, b300_15, b300_27, b300_31, b300_32, b300_35, b300_38, b300_40, b300_49, b300_71, b300_78, b300_86, b300_92, qcall_l, qcall_r, qretn_l, qJ_s, qJ_n, qV0, qEx, ↓qif0, ↓zchk_pos, ↓reduceIte, qput, qWW, qmW, qkW, qnW, if_neg (show ¬ (i : Int) < i from Int.lt_irrefl _)]
  | succ g ih =>
    intro i m x4 hi hm
    have hlt : (i : Int) < n := Int.ofNat_lt.mpr (by omega)
    obtain ⟨kq, s0, s1, s2⟩ := qds_k hq n65 i (by omega)
    have d6 := kq.2.2.2.2.2
    obtain ⟨⟨q86, q87, q88⟩, ⟨q93, q94⟩, ⟨q80, q3⟩, qf⟩ := hm
    have hm' : qPR m1 (qu m 37 3 ((qds (zm S) p i).1.2.2.2.2.2.2 + 1)) (qdq (qds (zm S) p i).1) := by
      refine ⟨⟨?_, ?_, ?_⟩, ⟨?_, ?_⟩, ⟨?_, ?_⟩, fun z j hz => ?_⟩
      · rw [qu_o _ _ _ _ _ (by decide)]; exact q86
      · rw [qu_o _ _ _ _ _ (by decide)]; exact q87
      · rw [qu_o _ _ _ _ _ (by decide)]; exact q88
      · rw [qu_o _ _ _ _ _ (by decide)]; exact q93
      · rw [qu_o _ _ _ _ _ (by decide)]; exact q94
      · rw [qu_i _ _ _ _ _ (by decide)]; exact q80
      · rw [qu_s]; rfl
      · by_cases c : z = 37
        · subst c
          rw [qu_i _ _ _ _ _ fun q => hz (by unfold qRE; omega)]
          exact qf _ _ hz
        · rw [qu_o _ _ _ _ _ c]
          exact qf _ _ hz
    have kq2 := qdq_k kq (by omega)
    obtain ⟨m2, r2, q2⟩ := r_passIn e S m1 (qdq (qds (zm S) p i).1) (n : Int) (qds (zm S) p i).2 i he hH hP1 hB kq2 (zm S 37 65).toNat (by omega) ⟨s0, by omega⟩ (by omega) (zm S 37 65).toNat 0 _ (by omega) hm'
    have r2 : zF_300 e 62 [vr 37, vi (n : Int), vi ((qds (zm S) p i).2 + 0), vi (i : Int), vi 0] [] (qW S (qu m 37 3 ((qds (zm S) p i).1.2.2.2.2.2.2 + 1))) = zF_300 e 44 [vr 37, vi (n : Int), vi (qds (zm S) p (i + 1)).2, vi ((i + 1 : Nat) : Int), vu] [] (qW S m2) := r2
    rw [Int.add_zero] at r2
    obtain ⟨m3, r3, q3'⟩ := ih (i + 1) m2 vu (by omega) q2
    refine ⟨m3, ?_, q3'⟩
    rw [b300_44]
    simp (config := { maxSteps := 2000000 }) (disch := first | omega | (simp only [K_37 hK, qb_in, qkW, qmW, qnW, true_and, and_true, or_self, true_or, or_true, and_self]; done) | (simp only [K_37 hK, qb_in, qkW, qmW, qnW, true_and, and_true, or_self, true_or, or_true, and_self]; omega)) only [b300_0, b300_8, b300_11, b300_15, b300_27, b300_31, b300_32, b300_35, b300_38, b300_40, b300_49, b300_71, b300_78, b300_86, b300_92, qcall_l, qcall_r, qretn_l, qJ_s, qJ_n, qV0, qEx, ↓qif0, ↓zchk_pos, ↓reduceIte, qput, qWW, qmW, qkW, qnW, K_37 hK, if_pos hlt, q3, q32 (x := (qds (zm S) p i).1.2.2.2.2.2.2 + 1) ⟨by omega, by omega⟩, r2, r3]
theorem s_sendCopies (d : Nat) (S : zS) (m : Int → Int → Int) (p : qQ) (h : 5 ≤ d) (hH : qHC S) (hm : qPC S m p) (hq : qQk (zm S) p) : ∃ m', zD d 170 [vr 3] (qW S m) = some (.inl (some (vi (qsr (zm S) p (zm S 37 65).toNat).2)), qW S m') ∧ qPC S m' (qsr (zm S) p (zm S 37 65).toNat).1 := by
  obtain ⟨e, rfl, he⟩ := qd h
  have n65 := hH.1.1.2.2.1.2.2.2.1.1.2
  obtain ⟨m', r, q⟩ := s_sendLoop e S p m he hH hm hq (zm S 37 65).toNat (by omega) (zm S 37 65).toNat 0 m vu vu (by omega) hm
  refine ⟨m', ?_, q⟩
  have r : zF_170 e 4 [vr 3, vi 0, vi 0, vu, vu] [] (qW S m) = _ := r
  simp (config := { maxSteps := 2000000 }) (disch := first | omega | (simp only [qb_in, qkW, qmW, qnW, true_and, and_true, or_self, true_or, or_true, and_self]; done) | (simp only [qb_in, qkW, qmW, qnW, true_and, and_true, or_self, true_or, or_true, and_self]; omega)) only [zD_170, b170_0, b170_12, b170_27, b170_35, b170_40, b170_43, b170_44, b170_52, b170_70, b170_73, b170_81, b170_99, b170_102, b170_108, qcall_l, qcall_r, qretn_l, qJ_s, qJ_n, qV0, qEx, ↓qif0, ↓zchk_pos, ↓reduceIte, qput, qWW, qmW, qkW, qnW]
  exact r
theorem s_passOut (e : Nat) (S : zS) (p : qQ) (n : Nat) (he : 5 ≤ e) (hH : qHC S) (hq : qQk (zm S) p) (hn : n ≤ 100) (hd : p.2.2.2.2.2.2 + n ≤ 1000) :
    ∀ (g i : Nat) (m : Int → Int → Int), i + g = n → qPC S m (qds (zm S) p i).1 → ∃ m', zF_146 e 49 [vr 3, vi (n : Int), vi (qds (zm S) p i).2, vi (i : Int)] [] (qW S m) = some (.inl (some (vi (qds (zm S) p n).2)), qW S m') ∧ qPC S m' (qds (zm S) p n).1 := by
  have hK := hH.1.1.1.1
  have n65 := hH.1.1.2.2.1.2.2.2.1.1.2
  intro g
  induction g with
  | zero =>
    intro i m hi hm
    obtain rfl : i = n := by omega
    refine ⟨m, ?_, hm⟩
    rw [b146_49]
    simp (config := { maxSteps := 2000000 }) (disch := first | omega | (simp only [qb_in, qkW, qmW, qnW, true_and, and_true, or_self, true_or, or_true, and_self]; done) | (simp only [qb_in, qkW, qmW, qnW, true_and, and_true, or_self, true_or, or_true, and_self]; omega)) only [b146_0, b146_5, b146_11, b146_22, b146_34, b146_45, b146_54, b146_69, b146_77, qcall_l, qcall_r, qretn_l, qJ_s, qJ_n, qV0, qEx, ↓qif0, ↓zchk_pos, ↓reduceIte, qput, qWW, qmW, qkW, qnW, if_neg (show ¬ (i : Int) < i from Int.lt_irrefl _)]
  | succ g ih =>
    intro i m hi hm
    have hlt : (i : Int) < n := Int.ofNat_lt.mpr (by omega)
    obtain ⟨kq, s0, s1, s2⟩ := qds_k hq n65 i (by omega)
    obtain ⟨kq', u0, u1, u2⟩ := qds_k hq n65 (i + 1) (by omega)
    have d6 := kq.2.2.2.2.2
    obtain ⟨⟨q13, q15⟩, q16, q6, ql, qf⟩ := hm
    have h103 := hH.1.1.1.2.2.2
    have hm' : qPC S (qu m 3 13 ((qds (zm S) p i).1.2.2.2.2.2.2 + 1)) (qdq (qds (zm S) p i).1) := by
      obtain ⟨-, -, -, p4, p5, -⟩ := hH.1.1.2.2.1
      refine ⟨⟨?_, ?_⟩, fun k k1 k2 => ?_, fun k k1 k2 => ?_, fun k k1 k2 => ?_, fun z j hz => ?_⟩
      · rw [qu_s]; rfl
      · rw [qu_o _ _ _ _ _ (by decide)]; exact q15
      · rw [qu_o _ _ _ _ _ (by decide), qu_o _ _ _ _ _ (by decide)]; exact q16 k k1 k2
      · have y := (p4.2.1 k k1 k2).1.2.1
        rw [qu_o _ _ _ _ _ (by omega)]; exact q6 k k1 k2
      · have y := (p5.2.1 k k1 k2).1.2.2.1
        rw [qu_o _ _ _ _ _ (by omega)]; exact ql k k1 k2
      · by_cases c : z = 3
        · subst c
          rw [qu_i _ _ _ _ _ fun q => hz (Or.inl ⟨rfl, q⟩)]
          exact qf _ _ hz
        · rw [qu_o _ _ _ _ _ c]
          exact qf _ _ hz
    have kq2 := qdq_k kq (by omega)
    obtain ⟨m2, r2, q2⟩ := s_sendCopies e S _ _ he hH hm' kq2
    obtain ⟨m3, r3, q3'⟩ := ih (i + 1) m2 (by omega) q2
    refine ⟨m3, ?_, q3'⟩
    have es : (qds (zm S) p (i + 1)).2 = (qds (zm S) p i).2 + (qsr (zm S) (qdq (qds (zm S) p i).1) (zm S 37 65).toNat).2 := rfl
    rw [es] at r3 u0 u1
    rw [b146_49]
    simp (config := { maxSteps := 2000000 }) (disch := first | omega | (simp only [K_3 hK, qb_in, qkW, qmW, qnW, true_and, and_true, or_self, true_or, or_true, and_self]; done) | (simp only [K_3 hK, qb_in, qkW, qmW, qnW, true_and, and_true, or_self, true_or, or_true, and_self]; omega)) only [b146_0, b146_5, b146_11, b146_22, b146_34, b146_45, b146_54, b146_69, b146_77, qcall_l, qcall_r, qretn_l, qJ_s, qJ_n, qV0, qEx, ↓qif0, ↓zchk_pos, ↓reduceIte, qput, qWW, qmW, qkW, qnW, K_3 hK, if_pos hlt, q13, q32 (x := (qds (zm S) p i).1.2.2.2.2.2.2 + 1) ⟨by omega, by omega⟩, r2, q32 (x := (qds (zm S) p i).2 + (qsr (zm S) (qdq (qds (zm S) p i).1) (zm S 37 65).toNat).2) ⟨by omega, by omega⟩, z32_s i (by omega), r3]
