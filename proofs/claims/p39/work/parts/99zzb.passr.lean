/-! Passing days: the reference. -/
def qRE (z j : Int) : Prop := (86 ≤ z ∧ z ≤ 88) ∨ z = 93 ∨ z = 94 ∨ (z = 37 ∧ (j = 3 ∨ j = 80))
def qPR (m1 m : Int → Int → Int) (p : qQ) : Prop := (m 86 = p.1 ∧ m 87 = p.2.1 ∧ m 88 = p.2.2.1) ∧ (m 93 = p.2.2.2.1 ∧ m 94 = p.2.2.2.2.1) ∧ (m 37 80 = p.2.2.2.2.2.1 ∧ m 37 3 = p.2.2.2.2.2.2) ∧ ∀ z j, ¬ qRE z j → m z j = m1 z j
def qPB (S : zS) (m1 : Int → Int → Int) : Prop := (∀ z, z = 62 ∨ z = 63 ∨ z = 82 ∨ z = 85 ∨ z = 90 → m1 z = zm S z) ∧ ∀ j, j ≠ 0 → j ≠ 3 → j ≠ 80 → m1 37 j = zm S 37 j
theorem qPB_P {S : zS} {m1 m : Int → Int → Int} {p : qQ} (hP : qP m1) (h : qPR m1 m p) : qP m := hP.same fun q hq => by
  have n := qPt_n q hq
  exact h.2.2.2 q.1 q.2.1 (by unfold qRE; omega)
theorem r_hurtPages (d : Nat) (S : zS) (k : Int) (h : 2 ≤ d) (hK : qK S) (hP : qP (zm S)) (hk : 0 ≤ k ∧ k < 20) : zD d 285 [vr 37, vi k] S = some (.inl (some (vi (qhp (zm S) k 160))), S) := by
  obtain ⟨e, rfl, he⟩ := qd h
  have p69 := P_37_69 hP
  have lp : ∀ (g i : Nat), i + g = 160 → zF_285 e 4 [vr 37, vi k, vi (qhp (zm S) k i), vi (i : Int)] [] S = some (.inl (some (vi (qhp (zm S) k 160))), S) := by
    intro g
    induction g with
    | zero =>
      intro i hi
      obtain rfl : i = 160 := by omega
      rw [b285_4]
      simp (config := { maxSteps := 2000000 }) (disch := first | omega | (simp only [qb_in, qkW, qmW, qnW, true_and, and_true, or_self, true_or, or_true, and_self]; done) | (simp only [qb_in, qkW, qmW, qnW, true_and, and_true, or_self, true_or, or_true, and_self]; omega)) only [b285_0, b285_11, b285_21, b285_25, b285_29, b285_30, b285_38, qcall_l, qcall_r, qretn_l, qJ_s, qJ_n, qV0, qEx, ↓qif0, ↓zchk_pos, ↓reduceIte, qput, qWW, qmW, qkW, qnW, if_neg (show ¬ ((160 : Nat) : Int) < 160 by decide)]
    | succ g ih =>
      intro i hi
      have hlt : (i : Int) < 160 := by omega
      have r1 := ih (i + 1) (by omega)
      rw [qhp] at r1
      have hr := qhp_r (zm S) k i
      have z1 : z32 (160 * k) = 160 * k := q32 (by omega)
      have z2 : z32 (160 * k + (i : Int)) = 160 * k + i := q32 (by omega)
      have z3 : z32 (qhp (zm S) k i + 0) = qhp (zm S) k i := by rw [q32 (by omega), Int.add_zero]
      have z4 : z32 (qhp (zm S) k i + 1) = qhp (zm S) k i + 1 := q32 (by omega)
      have ha : zD e 279 [vi k, vi (i : Int)] S = some (.inl (some (vi (160 * k + i))), S) := by
        obtain ⟨f, rfl, -⟩ := qd (show 1 ≤ e by omega)
        simp (config := { maxSteps := 2000000 }) (disch := first | omega | (simp only [qb_in, qkW, qmW, qnW, true_and, and_true, or_self, true_or, or_true, and_self]; done) | (simp only [qb_in, qkW, qmW, qnW, true_and, and_true, or_self, true_or, or_true, and_self]; omega)) only [zD_279, b279_0, qcall_l, qcall_r, qretn_l, qJ_s, qJ_n, qV0, qEx, ↓qif0, ↓zchk_pos, ↓reduceIte, qput, qWW, qmW, qkW, qnW, z1, z2]
      rw [b285_4]
      by_cases c : zm S 85 (160 * k + i) = 0
      · rw [if_pos c, Int.add_zero] at r1
        simp (config := { maxSteps := 2000000 }) (disch := first | omega | (simp only [K_37 hK, K_85 hK, p69, qb_in, qkW, qmW, qnW, true_and, and_true, or_self, true_or, or_true, and_self]; done) | (simp only [K_37 hK, K_85 hK, p69, qb_in, qkW, qmW, qnW, true_and, and_true, or_self, true_or, or_true, and_self]; omega)) only [b285_0, b285_11, b285_21, b285_25, b285_29, b285_30, b285_38, qcall_l, qcall_r, qretn_l, qJ_s, qJ_n, qV0, qEx, ↓qif0, ↓zchk_pos, ↓reduceIte, qput, qWW, qmW, qkW, qnW, K_37 hK, K_85 hK, p69, if_pos hlt, ha, if_pos c, z3, z32_s i (by omega), r1]
      · rw [if_neg c] at r1
        simp (config := { maxSteps := 2000000 }) (disch := first | omega | (simp only [K_37 hK, K_85 hK, p69, qb_in, qkW, qmW, qnW, true_and, and_true, or_self, true_or, or_true, and_self]; done) | (simp only [K_37 hK, K_85 hK, p69, qb_in, qkW, qmW, qnW, true_and, and_true, or_self, true_or, or_true, and_self]; omega)) only [b285_0, b285_11, b285_21, b285_25, b285_29, b285_30, b285_38, qcall_l, qcall_r, qretn_l, qJ_s, qJ_n, qV0, qEx, ↓qif0, ↓zchk_pos, ↓reduceIte, qput, qWW, qmW, qkW, qnW, K_37 hK, K_85 hK, p69, if_pos hlt, ha, if_neg c, z4, z32_s i (by omega), r1]
  have r1 := lp 160 0 rfl
  have r1 : zF_285 e 4 [vr 37, vi k, vi 0, vi 0] [] S = _ := r1
  simp (config := { maxSteps := 2000000 }) (disch := first | omega | (simp only [qb_in, qkW, qmW, qnW, true_and, and_true, or_self, true_or, or_true, and_self]; done) | (simp only [qb_in, qkW, qmW, qnW, true_and, and_true, or_self, true_or, or_true, and_self]; omega)) only [zD_285, b285_0, b285_11, b285_21, b285_25, b285_29, b285_30, b285_38, qcall_l, qcall_r, qretn_l, qJ_s, qJ_n, qV0, qEx, ↓qif0, ↓zchk_pos, ↓reduceIte, qput, qWW, qmW, qkW, qnW]
  exact r1
theorem r_wishFor (d : Nat) (S : zS) (m1 m : Int → Int → Int) (p : qQ) (k b : Int) (h : 3 ≤ d) (hH : qHC S) (hP1 : qP m1) (hB : qPB S m1) (hp : qPR m1 m p) (hq : qQk (zm S) p) (hk : 0 ≤ k ∧ k < zm S 37 65) (hb : zm S 82 k = b) : zD d 298 [vr 37, vi k] (qW S m) = some (.inl (some (vi (qwf_ (zm S) p b p.2.2.2.2.2.1.toNat))), qW S m) := by
  obtain ⟨e, rfl, he⟩ := qd h
  have hP := qPB_P (S := S) hP1 hp
  obtain ⟨⟨⟨⟨hK, -, hL, hn⟩, ⟨hT, hC, hR, hkk⟩, ⟨p1, p2, p3, p4, p5, p6⟩, hY⟩, hBB⟩, hYC, hFc⟩ := id hH
  have bb := (p4.2.1 k hk.1 hk.2).2.2.1
  rw [hb] at bb
  have n4 := hY.1.2
  obtain ⟨b1, b2⟩ := hB
  obtain ⟨⟨q86, q87, q88⟩, ⟨q93, q94⟩, ⟨q80, q3⟩, qf⟩ := hp
  obtain ⟨⟨n0, n30⟩, w1, -⟩ := hq
  have row : ∀ z, z = 62 ∨ z = 63 ∨ z = 82 ∨ z = 85 ∨ z = 90 → m z = zm S z := fun z hz => by
    rw [← b1 z hz]
    exact funext fun j => qf z j (by unfold qRE; omega)
  have m62 := row 62 (by omega)
  have m63 := row 63 (by omega)
  have m82 := row 82 (by omega)
  have m90 := row 90 (by omega)
  have e65 : m 37 65 = zm S 37 65 := by rw [qf 37 65 (by unfold qRE; omega), b2 65 (by decide) (by decide) (by decide)]
  have n65 := p4.1.2
  have n6 := p5.1.2
  have e30 := P_37_30 hP
  have e31 := P_37_31 hP
  have e66 := P_37_66 hP
  have e77 := P_37_77 hP
  have e81 := P_37_81 hP
  have e82 := P_37_82 hP
  obtain ⟨n, hnn⟩ : ∃ n : Nat, p.2.2.2.2.2.1 = (n : Int) := ⟨p.2.2.2.2.2.1.toNat, by omega⟩
  rw [hnn] at q80 w1 n30 ⊢
  rw [show ((n : Int)).toNat = n by omega]
  have n30' : n ≤ 30 := by omega
  have lp : ∀ (g i : Nat) (x1 x5 x6 : zV), i + g = n → zF_298 e 12 [vr 37, x1, vi b, vi (qwf_ (zm S) p b i), vi (i : Int), x5, x6] [] (qW S m) = some (.inl (some (vi (qwf_ (zm S) p b n))), qW S m) := by
    intro g
    induction g with
    | zero =>
      intro i x1 x5 x6 hi
      obtain rfl : i = n := by omega
      rw [b298_12]
      simp (config := { maxSteps := 2000000 }) (disch := first | omega | (simp only [K_37 hK, qb_in, qkW, qmW, qnW, true_and, and_true, or_self, true_or, or_true, and_self]; done) | (simp only [K_37 hK, qb_in, qkW, qmW, qnW, true_and, and_true, or_self, true_or, or_true, and_self]; omega)) only [b298_0, b298_21, b298_38, b298_41, b298_54, b298_69, b298_76, b298_80, b298_84, b298_85, b298_92, b298_97, b298_114, b298_118, b298_123, b298_124, b298_131, qcall_l, qcall_r, qretn_l, qJ_s, qJ_n, qV0, qEx, ↓qif0, ↓zchk_pos, ↓reduceIte, qput, qWW, qmW, qkW, qnW, K_37 hK, q80, if_neg (show ¬ (i : Int) < i from Int.lt_irrefl _)]
    | succ g ih =>
      intro i x1 x5 x6 hi
      have hlt : (i : Int) < n := Int.ofNat_lt.mpr (by omega)
      have i0 : 0 ≤ (i : Int) := Int.natCast_nonneg i
      have i30 : (i : Int) < 30 := by omega
      have i31 : (i : Int) < 2147483647 := by omega
      obtain ⟨⟨r0, r1⟩, -⟩ := w1 i i0 hlt
      have wr := qwf_r_ (zm S) p b i
      have ih := ih (i + 1) vu vu vu (by omega)
      obtain ⟨r, hr⟩ : ∃ r, p.2.2.2.1 i = r := ⟨_, rfl⟩
      rw [hr] at r0 r1
      have m93 : m 93 i = r := by rw [q93, hr]
      have m94 : m 94 i = p.2.2.2.2.1 i := by rw [q94]
      have r6 : r < 6 := by omega
      have bz := qbt_z (zm S 63 b) r ⟨r0, by omega⟩
      have hl := r_held e (qW S m) r (-1) (by omega) hK hP (by show 0 ≤ m 37 65 ∧ m 37 65 ≤ 20; rw [e65]; exact n65)
      rw [show qhl (zm (qW S m)) r (-1) (zm (qW S m) 37 65).toNat = qcv p.1 r (zm S 37 65).toNat by show qhl m r (-1) (m 37 65).toNat = _; rw [qhl_v, q86, e65]] at hl
      obtain ⟨B, hB⟩ : ∃ B, qwf_ (zm S) p b i = B := ⟨_, rfl⟩
      have un : qwf_ (zm S) p b (i + 1) = if qcan (zm S) p b i ∧ (B = -1 ∨ zm S 90 (p.2.2.2.1 B) < zm S 90 r) then (i : Int) else B := by
        subst hr
        subst hB
        rfl
      rw [hB] at wr
      rw [hB, b298_12]
      have mB : m 93 B = p.2.2.2.1 B := by rw [q93]
      have B6 : B ≠ -1 → 0 ≤ p.2.2.2.1 B ∧ p.2.2.2.1 B < 6 := fun q => by
        have := (w1 B (by omega) (by omega)).1
        omega
      clear w1 row b1 b2 qf hYC hFc hBB q86 q87 q88 q93 q94
      by_cases c1 : p.2.2.2.2.1 i = b
      · by_cases c3 : qcv p.1 r (zm S 37 65).toNat < 2
        · -- the last comparison
          have last : (p.2.2.2.2.2.2 < zm S 62 b → qbt (zm S 63 b) r = 1) → zF_298 e 69 [vr 37, vu, vi b, vi B, vi (i : Int), vi r, vu] [] (qW S m) = some (.inl (some (vi (qwf_ (zm S) p b n))), qW S m) := fun c2 => by
            have c2' : ¬ p.2.2.2.2.2.2 < zm S 62 b ∨ qbt (zm S 63 b) r = 1 := by
              by_cases q : p.2.2.2.2.2.2 < zm S 62 b
              · exact Or.inr (c2 q)
              · exact Or.inl q
            have cn : qcan (zm S) p b i := ⟨c1, by rw [hr]; exact c2', by rw [hr]; exact c3⟩
            by_cases c4 : B = -1
            · rw [if_pos ⟨cn, Or.inl c4⟩] at un
              rw [un] at ih
              rw [b298_69]
              simp (config := { maxSteps := 2000000 }) (disch := first | omega | (simp only [K_37 hK, qb_in, qkW, qmW, qnW, true_and, and_true, or_self, true_or, or_true, and_self]; done) | (simp only [K_37 hK, qb_in, qkW, qmW, qnW, true_and, and_true, or_self, true_or, or_true, and_self]; omega)) only [b298_0, b298_21, b298_38, b298_41, b298_54, b298_69, b298_76, b298_80, b298_84, b298_85, b298_92, b298_97, b298_114, b298_118, b298_123, b298_124, b298_131, qcall_l, qcall_r, qretn_l, qJ_s, qJ_n, qV0, qEx, ↓qif0, ↓zchk_pos, ↓reduceIte, qput, qWW, qmW, qkW, qnW, K_37 hK, hl, if_pos c3, if_pos c4, z32_s i i31, ih, Int.reduceEq]
            · have B6 := B6 c4
              by_cases c5 : zm S 90 (p.2.2.2.1 B) < zm S 90 r
              · rw [if_pos ⟨cn, Or.inr c5⟩] at un
                rw [un] at ih
                rw [b298_69]
                simp (config := { maxSteps := 2000000 }) (disch := first | omega | (simp only [K_37 hK, K_90 hK, K_93 hK, e77, e81, mB, qb_in, qkW, qmW, qnW, true_and, and_true, or_self, true_or, or_true, and_self]; done) | (simp only [K_37 hK, K_90 hK, K_93 hK, e77, e81, mB, qb_in, qkW, qmW, qnW, true_and, and_true, or_self, true_or, or_true, and_self]; omega)) only [b298_0, b298_21, b298_38, b298_41, b298_54, b298_69, b298_76, b298_80, b298_84, b298_85, b298_92, b298_97, b298_114, b298_118, b298_123, b298_124, b298_131, qcall_l, qcall_r, qretn_l, qJ_s, qJ_n, qV0, qEx, ↓qif0, ↓zchk_pos, ↓reduceIte, qput, qWW, qmW, qkW, qnW, K_37 hK, K_90 hK, K_93 hK, e77, e81, m90, mB, hl, if_pos c3, if_neg c4, if_pos c5, z32_s i i31, ih, Int.reduceEq]
              · rw [if_neg (fun q => q.2.elim c4 c5)] at un
                rw [un] at ih
                rw [b298_69]
                simp (config := { maxSteps := 2000000 }) (disch := first | omega | (simp only [K_37 hK, K_90 hK, K_93 hK, e77, e81, mB, qb_in, qkW, qmW, qnW, true_and, and_true, or_self, true_or, or_true, and_self]; done) | (simp only [K_37 hK, K_90 hK, K_93 hK, e77, e81, mB, qb_in, qkW, qmW, qnW, true_and, and_true, or_self, true_or, or_true, and_self]; omega)) only [b298_0, b298_21, b298_38, b298_41, b298_54, b298_69, b298_76, b298_80, b298_84, b298_85, b298_92, b298_97, b298_114, b298_118, b298_123, b298_124, b298_131, qcall_l, qcall_r, qretn_l, qJ_s, qJ_n, qV0, qEx, ↓qif0, ↓zchk_pos, ↓reduceIte, qput, qWW, qmW, qkW, qnW, K_37 hK, K_90 hK, K_93 hK, e77, e81, m90, mB, hl, if_pos c3, if_neg c4, if_neg c5, z32_s i i31, ih, Int.reduceEq]
          by_cases c2 : p.2.2.2.2.2.2 < zm S 62 b
          · by_cases c6 : qbt (zm S 63 b) r = 1
            · have l := last fun _ => c6
              simp (config := { maxSteps := 2000000 }) (disch := first | omega | (simp only [K_37 hK, K_93 hK, K_94 hK, K_62 hK, K_63 hK, e30, e31, e81, e82, qb_in, qkW, qmW, qnW, true_and, and_true, or_self, true_or, or_true, and_self]; done) | (simp only [K_37 hK, K_93 hK, K_94 hK, K_62 hK, K_63 hK, e30, e31, e81, e82, qb_in, qkW, qmW, qnW, true_and, and_true, or_self, true_or, or_true, and_self]; omega)) only [b298_0, b298_21, b298_38, b298_41, b298_54, b298_76, b298_80, b298_84, b298_85, b298_92, b298_97, b298_114, b298_118, b298_123, b298_124, b298_131, qcall_l, qcall_r, qretn_l, qJ_s, qJ_n, qV0, qEx, ↓qif0, ↓zchk_pos, ↓reduceIte, qput, qWW, qmW, qkW, qnW, K_37 hK, K_93 hK, K_94 hK, K_62 hK, K_63 hK, e30, e31, e81, e82, q80, q3, if_pos hlt, m93, m94, if_pos c1, m62, m63, if_pos c2, bz, if_pos c6, l]
            · rw [if_neg (fun q => q.1.2.1.elim (fun z => z c2) (by rw [hr]; exact c6))] at un
              rw [un] at ih
              simp (config := { maxSteps := 2000000 }) (disch := first | omega | (simp only [K_37 hK, K_93 hK, K_94 hK, K_62 hK, K_63 hK, e30, e31, e81, e82, qb_in, qkW, qmW, qnW, true_and, and_true, or_self, true_or, or_true, and_self]; done) | (simp only [K_37 hK, K_93 hK, K_94 hK, K_62 hK, K_63 hK, e30, e31, e81, e82, qb_in, qkW, qmW, qnW, true_and, and_true, or_self, true_or, or_true, and_self]; omega)) only [b298_0, b298_21, b298_38, b298_41, b298_54, b298_76, b298_80, b298_84, b298_85, b298_92, b298_97, b298_114, b298_118, b298_123, b298_124, b298_131, qcall_l, qcall_r, qretn_l, qJ_s, qJ_n, qV0, qEx, ↓qif0, ↓zchk_pos, ↓reduceIte, qput, qWW, qmW, qkW, qnW, K_37 hK, K_93 hK, K_94 hK, K_62 hK, K_63 hK, e30, e31, e81, e82, q80, q3, if_pos hlt, m93, m94, if_pos c1, m62, m63, if_pos c2, bz, if_neg c6, z32_s i i31, ih, Int.reduceEq]
          · have l := last fun q => absurd q c2
            simp (config := { maxSteps := 2000000 }) (disch := first | omega | (simp only [K_37 hK, K_93 hK, K_94 hK, K_62 hK, K_63 hK, e30, e31, e81, e82, qb_in, qkW, qmW, qnW, true_and, and_true, or_self, true_or, or_true, and_self]; done) | (simp only [K_37 hK, K_93 hK, K_94 hK, K_62 hK, K_63 hK, e30, e31, e81, e82, qb_in, qkW, qmW, qnW, true_and, and_true, or_self, true_or, or_true, and_self]; omega)) only [b298_0, b298_21, b298_38, b298_41, b298_54, b298_76, b298_80, b298_84, b298_85, b298_92, b298_97, b298_114, b298_118, b298_123, b298_124, b298_131, qcall_l, qcall_r, qretn_l, qJ_s, qJ_n, qV0, qEx, ↓qif0, ↓zchk_pos, ↓reduceIte, qput, qWW, qmW, qkW, qnW, K_37 hK, K_93 hK, K_94 hK, K_62 hK, K_63 hK, e30, e31, e81, e82, q80, q3, if_pos hlt, m93, m94, if_pos c1, m62, if_neg c2, l]
        · rw [if_neg (fun q => c3 (by have := q.1.2.2; rw [hr] at this; exact this))] at un
          rw [un] at ih
          have last : zF_298 e 69 [vr 37, vu, vi b, vi B, vi (i : Int), vi r, vu] [] (qW S m) = some (.inl (some (vi (qwf_ (zm S) p b n))), qW S m) := by
            rw [b298_69]
            simp (config := { maxSteps := 2000000 }) (disch := first | omega | (simp only [K_37 hK, qb_in, qkW, qmW, qnW, true_and, and_true, or_self, true_or, or_true, and_self]; done) | (simp only [K_37 hK, qb_in, qkW, qmW, qnW, true_and, and_true, or_self, true_or, or_true, and_self]; omega)) only [b298_0, b298_21, b298_38, b298_41, b298_54, b298_69, b298_76, b298_80, b298_84, b298_85, b298_92, b298_97, b298_114, b298_118, b298_123, b298_124, b298_131, qcall_l, qcall_r, qretn_l, qJ_s, qJ_n, qV0, qEx, ↓qif0, ↓zchk_pos, ↓reduceIte, qput, qWW, qmW, qkW, qnW, K_37 hK, hl, if_neg c3, z32_s i i31, ih, Int.reduceEq]
          by_cases c2 : p.2.2.2.2.2.2 < zm S 62 b
          · by_cases c6 : qbt (zm S 63 b) r = 1
            · simp (config := { maxSteps := 2000000 }) (disch := first | omega | (simp only [K_37 hK, K_93 hK, K_94 hK, K_62 hK, K_63 hK, e30, e31, e81, e82, qb_in, qkW, qmW, qnW, true_and, and_true, or_self, true_or, or_true, and_self]; done) | (simp only [K_37 hK, K_93 hK, K_94 hK, K_62 hK, K_63 hK, e30, e31, e81, e82, qb_in, qkW, qmW, qnW, true_and, and_true, or_self, true_or, or_true, and_self]; omega)) only [b298_0, b298_21, b298_38, b298_41, b298_54, b298_76, b298_80, b298_84, b298_85, b298_92, b298_97, b298_114, b298_118, b298_123, b298_124, b298_131, qcall_l, qcall_r, qretn_l, qJ_s, qJ_n, qV0, qEx, ↓qif0, ↓zchk_pos, ↓reduceIte, qput, qWW, qmW, qkW, qnW, K_37 hK, K_93 hK, K_94 hK, K_62 hK, K_63 hK, e30, e31, e81, e82, q80, q3, if_pos hlt, m93, m94, if_pos c1, m62, m63, if_pos c2, bz, if_pos c6, last]
            · simp (config := { maxSteps := 2000000 }) (disch := first | omega | (simp only [K_37 hK, K_93 hK, K_94 hK, K_62 hK, K_63 hK, e30, e31, e81, e82, qb_in, qkW, qmW, qnW, true_and, and_true, or_self, true_or, or_true, and_self]; done) | (simp only [K_37 hK, K_93 hK, K_94 hK, K_62 hK, K_63 hK, e30, e31, e81, e82, qb_in, qkW, qmW, qnW, true_and, and_true, or_self, true_or, or_true, and_self]; omega)) only [b298_0, b298_21, b298_38, b298_41, b298_54, b298_76, b298_80, b298_84, b298_85, b298_92, b298_97, b298_114, b298_118, b298_123, b298_124, b298_131, qcall_l, qcall_r, qretn_l, qJ_s, qJ_n, qV0, qEx, ↓qif0, ↓zchk_pos, ↓reduceIte, qput, qWW, qmW, qkW, qnW, K_37 hK, K_93 hK, K_94 hK, K_62 hK, K_63 hK, e30, e31, e81, e82, q80, q3, if_pos hlt, m93, m94, if_pos c1, m62, m63, if_pos c2, bz, if_neg c6, z32_s i i31, ih, Int.reduceEq]
          · simp (config := { maxSteps := 2000000 }) (disch := first | omega | (simp only [K_37 hK, K_93 hK, K_94 hK, K_62 hK, K_63 hK, e30, e31, e81, e82, qb_in, qkW, qmW, qnW, true_and, and_true, or_self, true_or, or_true, and_self]; done) | (simp only [K_37 hK, K_93 hK, K_94 hK, K_62 hK, K_63 hK, e30, e31, e81, e82, qb_in, qkW, qmW, qnW, true_and, and_true, or_self, true_or, or_true, and_self]; omega)) only [b298_0, b298_21, b298_38, b298_41, b298_54, b298_76, b298_80, b298_84, b298_85, b298_92, b298_97, b298_114, b298_118, b298_123, b298_124, b298_131, qcall_l, qcall_r, qretn_l, qJ_s, qJ_n, qV0, qEx, ↓qif0, ↓zchk_pos, ↓reduceIte, qput, qWW, qmW, qkW, qnW, K_37 hK, K_93 hK, K_94 hK, K_62 hK, K_63 hK, e30, e31, e81, e82, q80, q3, if_pos hlt, m93, m94, if_pos c1, m62, if_neg c2, last]
      · rw [if_neg (fun q => c1 q.1.1)] at un
        rw [un] at ih
        simp (config := { maxSteps := 2000000 }) (disch := first | omega | (simp only [K_37 hK, K_93 hK, K_94 hK, e81, e82, qb_in, qkW, qmW, qnW, true_and, and_true, or_self, true_or, or_true, and_self]; done) | (simp only [K_37 hK, K_93 hK, K_94 hK, e81, e82, qb_in, qkW, qmW, qnW, true_and, and_true, or_self, true_or, or_true, and_self]; omega)) only [b298_0, b298_21, b298_38, b298_41, b298_54, b298_76, b298_80, b298_84, b298_85, b298_92, b298_97, b298_114, b298_118, b298_123, b298_124, b298_131, qcall_l, qcall_r, qretn_l, qJ_s, qJ_n, qV0, qEx, ↓qif0, ↓zchk_pos, ↓reduceIte, qput, qWW, qmW, qkW, qnW, K_37 hK, K_93 hK, K_94 hK, e81, e82, q80, if_pos hlt, m93, m94, if_neg c1, z32_s i i31, ih, Int.reduceEq]
  have l0 := lp n 0 vu vu vu (by omega)
  have l0 : zF_298 e 12 [vr 37, vu, vi b, vi (-1), vi 0, vu, vu] [] (qW S m) = some (.inl (some (vi (qwf_ (zm S) p b n))), qW S m) := l0
  have l1 : zF_298 e 12 [vr 37, vi k, vi b, vi (-1), vi 0, vu, vu] [] (qW S m) = some (.inl (some (vi (qwf_ (zm S) p b n))), qW S m) := by
    rw [b298_12] at l0 ⊢
    exact l0
  have k20 : k < 20 := by omega
  have m82k : m 82 k = b := by rw [m82, hb]
  simp (config := { maxSteps := 2000000 }) (disch := first | omega | (simp only [K_37 hK, K_82 hK, e66, hk.1, k20, qb_in, qkW, qmW, qnW, true_and, and_true, or_self, true_or, or_true, and_self]; done) | (simp only [K_37 hK, K_82 hK, e66, hk.1, k20, qb_in, qkW, qmW, qnW, true_and, and_true, or_self, true_or, or_true, and_self]; omega)) only [zD_298, b298_0, b298_21, b298_38, b298_41, b298_54, b298_69, b298_76, b298_80, b298_84, b298_85, b298_92, b298_97, b298_114, b298_118, b298_123, b298_124, b298_131, qcall_l, qcall_r, qretn_l, qJ_s, qJ_n, qV0, qEx, ↓qif0, ↓zchk_pos, ↓reduceIte, qput, qWW, qmW, qkW, qnW, K_37 hK, K_82 hK, e66, m82k, l1]
