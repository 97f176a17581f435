/-! The question for reading back: both answer alike. -/
theorem q_isReadBack (d : Nat) (S : zS) (w : Int) (h : 192 ≤ d) (hK : qK S) (hP : qP (zm S)) (hL : qLt (zm S)) (hT : qRT S) (hC : qRC S) : qAsk vi S (zD d 130 [vr 3, vi w] S) (zD d 251 [vr 37, vi w]) qpsA := by
  obtain ⟨e, rfl, h1⟩ := qd h
  have key : ∀ (Z : zS) (p : Int), qK Z → ¬ p = 0 → (¬ (0 ≤ w ∧ w ≤ 1) ∧ p = 1 ∨ (0 ≤ w ∧ w ≤ 1) ∧ p = 2 ∧ ∃ f, ¬ f = -1 ∧ zD e 236 [vr 37] Z = some (.inl (some (vi f)), Z)) → zD (e + 1) 251 [vr 37, vi w] Z = some (.inl (some (vi 0)), qW Z (qu (zm Z) 37 0 p)) := by
    intro Z p hK hp hc
    have hi := r_in e w 0 1 Z (by omega)
    have hd := r_holds e Z p (by omega) hK
    rw [qb_n hp] at hd
    rcases hc with ⟨h1, rfl⟩ | ⟨h1, rfl, f, h2, h3⟩
    · rw [qb_n h1] at hi
      simp (config := { maxSteps := 2000000 }) (disch := first | omega | (simp only [K_37 hK, qb_in, qkW, qmW, qnW, true_and, and_true, or_self, true_or, or_true, and_self]; done) | (simp only [K_37 hK, qb_in, qkW, qmW, qnW, true_and, and_true, or_self, true_or, or_true, and_self]; omega)) only [zD_251, b251_0, b251_7, b251_10, b251_14, b251_18, b251_22, b251_26, b251_27, b251_30, qcall_l, qcall_r, qretn_l, qJ_s, qJ_n, qV0, qEx, ↓qif0, ↓zchk_pos, ↓reduceIte, qput, qWW, qmW, qkW, qnW, K_37 hK, hi, hd, Int.reduceEq, Int.reduceLE, true_and, and_self]
    · rw [qb_p h1] at hi
      simp (config := { maxSteps := 2000000 }) (disch := first | omega | (simp only [K_37 hK, qb_in, qkW, qmW, qnW, true_and, and_true, or_self, true_or, or_true, and_self]; done) | (simp only [K_37 hK, qb_in, qkW, qmW, qnW, true_and, and_true, or_self, true_or, or_true, and_self]; omega)) only [zD_251, b251_0, b251_7, b251_10, b251_14, b251_18, b251_22, b251_26, b251_27, b251_30, qcall_l, qcall_r, qretn_l, qJ_s, qJ_n, qV0, qEx, ↓qif0, ↓zchk_pos, ↓reduceIte, qput, qWW, qmW, qkW, qnW, K_37 hK, hi, h3, if_neg h2, hd, Int.reduceEq, Int.reduceLE, true_and, and_self]
  have bad : ∀ (x : Nat), (¬ qpsA x = 0) → zD (e + 1) 130 [vr 3, vi w] S = some (.inr x, zbump S) → zD (e + 1) 251 [vr 37, vi w] (zbump S) = some (.inl (some (vi 0)), qW (zbump S) (qu (zm S) 37 0 (qpsA x))) → qAsk vi S (zD (e + 1) 130 [vr 3, vi w] S) (zD (e + 1) 251 [vr 37, vi w]) qpsA := fun x hx r1 r2 =>
    Or.inr ⟨x, 0, zm S, qu (zm S) 37 0 (qpsA x), r1, rfl, by rw [qWS]; exact r2, qu_s _ _ _ _, hx, qFq_37x (qFq_r S) (qfr_j (A := []) (J := [0]) _ _ _ (by decide)) (by decide) (by decide)⟩
  by_cases hw : 0 ≤ w ∧ w ≤ 1
  · have cw := s_checkWhich_y e S w (by omega) hw
    by_cases hf : qff1 (zm S 38) (zm S 37 2) = -1
    · have hw2 : w = 0 ∨ w = 1 := by omega
      obtain ⟨x, m1, hx, r1, a1, a2, q1, -⟩ := q_formBoth e e S w (by omega) (by omega) hK hP hL hT hC hw2 hf
      have hP1 := qFq_P hC hP q1
      have hL1 := qFq_L hC hL q1
      obtain ⟨m3, r3, b1, b2, b3⟩ := s_readCellsOf e (qW S m1) w x (by omega) hK (qFp_23 hP1) (qFp_30 hP1) hL1 hw2 hx.2.1 hx.2.2 a2
      have r3 : zD e 55 [vr 30, vr 23, vi w] (qW S m1) = some (.inl (some (vi 1)), qW S m3) := r3
      have q3 : qFq S m3 := fun a j q => by
        rw [← q1 a j q]
        have q : ¬ qscf a j := fun z => q (Or.inl z)
        unfold qscf at q
        by_cases c : a = 30
        · subst c
          exact b3 j (by omega) (by omega) (by omega) (by omega) (by omega)
        · rw [b2 a (by omega)]
          rfl
      have hP3 := qFq_P hC hP q3
      have e23 : m3 23 = m1 23 := b2 23 (by decide)
      have e25 : m3 25 = m1 25 := b2 25 (by decide)
      have a23 : qHo m3 23 x := by
        obtain ⟨g1, g2, g3, g4⟩ := a1
        refine ⟨qFp_23 hP3, by rw [e23]; exact g2, by rw [e23]; exact g3, ?_⟩
        rw [e23]
        exact qcr_f (b := qsz x) (fun a i h1 h2 _ => by rw [b2 a (by omega)]; rfl) x hx.2.1 _ g3.2 g4
      have sm := s_areSameNodes S m3 (qsz x) (qsz x) hK (qFp_30 hP3) (qFp_23 hP3) b1.2.1 a23.2.1 (by omega) (by omega) x hx.2.1 (e - 1) 0 (m3 30 9) (m3 23 9) (by omega) (Int.le_refl 0) (by omega) b1.2.2.1 a23.2.2.1 b1.2.2.2 a23.2.2.2
      obtain ⟨f, rfl, hf1⟩ := qd (show 1 + 1 ≤ e by omega)
      rw [Nat.add_sub_cancel] at sm
      have st : zD (f + 1) 69 [vr 30, vr 23] (qW S m3) = some (.inl (some (vi 1)), qW S m3) := by
        simp (config := { maxSteps := 2000000 }) (disch := first | omega | (simp only [K_30 hK, K_23 hK, qb_in, qkW, qmW, qnW, true_and, and_true, or_self, true_or, or_true, and_self]; done) | (simp only [K_30 hK, K_23 hK, qb_in, qkW, qmW, qnW, true_and, and_true, or_self, true_or, or_true, and_self]; omega)) only [zD_69, b69_0, b69_14, qcall_l, qcall_r, qretn_l, qJ_s, qJ_n, qV0, qEx, ↓qif0, ↓zchk_pos, ↓reduceIte, qput, qWW, qmW, qkW, qnW, K_30 hK, K_23 hK, sm, Int.reduceLE, true_and, and_self]
      have p16 : m1 3 16 = 23 := P_3_16 hP1
      have p17 : m1 3 17 = 30 := P_3_17 hP1
      have t16 : m3 3 16 = 23 := P_3_16 hP3
      have t17 : m3 3 17 = 30 := P_3_17 hP3
      refine Or.inl ⟨1, m3, ?_, qFq_1 hC q3, fun o => ?_⟩
      · rcases hw2 with rfl | rfl
        · simp (config := { maxSteps := 2000000 }) (disch := first | omega | (simp only [K_3 hK, K_23 hK, P_3_16 hP, K_23 hK, K_30 hK, p16, p17, t16, t17, qb_in, qkW, qmW, qnW, true_and, and_true, or_self, true_or, or_true, and_self]; done) | (simp only [K_3 hK, K_23 hK, P_3_16 hP, K_23 hK, K_30 hK, p16, p17, t16, t17, qb_in, qkW, qmW, qnW, true_and, and_true, or_self, true_or, or_true, and_self]; omega)) only [zD_130, b130_0, b130_4, b130_9, b130_22, b130_26, b130_27, b130_30, b130_33, b130_44, b130_47, b130_51, b130_52, qcall_l, qcall_r, qretn_l, qJ_s, qJ_n, qV0, qEx, ↓qif0, ↓zchk_pos, ↓reduceIte, qput, qWW, qmW, qkW, qnW, K_3 hK, K_23 hK, P_3_16 hP, K_23 hK, K_30 hK, cw, r1, p16, p17, r3, t16, t17, st, Int.reduceEq, Int.reduceLE, true_and, and_self]
        · simp (config := { maxSteps := 2000000 }) (disch := first | omega | (simp only [K_3 hK, K_23 hK, P_3_16 hP, K_23 hK, K_30 hK, p16, p17, t16, t17, qb_in, qkW, qmW, qnW, true_and, and_true, or_self, true_or, or_true, and_self]; done) | (simp only [K_3 hK, K_23 hK, P_3_16 hP, K_23 hK, K_30 hK, p16, p17, t16, t17, qb_in, qkW, qmW, qnW, true_and, and_true, or_self, true_or, or_true, and_self]; omega)) only [zD_130, b130_0, b130_4, b130_9, b130_22, b130_26, b130_27, b130_30, b130_33, b130_44, b130_47, b130_51, b130_52, qcall_l, qcall_r, qretn_l, qJ_s, qJ_n, qV0, qEx, ↓qif0, ↓zchk_pos, ↓reduceIte, qput, qWW, qmW, qkW, qnW, K_3 hK, K_23 hK, P_3_16 hP, K_23 hK, K_30 hK, cw, r1, p16, p17, r3, t16, t17, st, Int.reduceEq, Int.reduceLE, true_and, and_self]
      have q9 := qFq_o q3 o
      obtain ⟨m9, hm9⟩ : ∃ m9, qu m3 102 0 o = m9 := ⟨_, rfl⟩
      rw [hm9] at q9 ⊢
      have hi := r_in (f + 1) w 0 1 (qW S m9) (by omega)
      rw [qb_p hw] at hi
      have hd := r_holds (f + 1) (qW S m9) 0 (by omega) hK
      rw [qb_p rfl] at hd
      have hd : zD (f + 1) 182 [vr 37, vi 0] (qW S m9) = some (.inl (some (vi 1)), qW S (qu m9 37 0 0)) := hd
      have hr := r_faultF (f + 1) S m9 (by omega) hK hP hT hC q9
      rw [hf] at hr
      refine ⟨qu m9 37 0 0, ?_, qu_s _ _ _ _, by rw [qu_o _ _ _ _ _ (by decide), ← hm9, qu_s], qFq_37x q9 (qfr_j (A := []) (J := [0]) _ _ _ (by decide)) (by decide) (by decide)⟩
      · simp (config := { maxSteps := 2000000 }) (disch := first | omega | (simp only [K_37 hK, qb_in, qkW, qmW, qnW, true_and, and_true, or_self, true_or, or_true, and_self]; done) | (simp only [K_37 hK, qb_in, qkW, qmW, qnW, true_and, and_true, or_self, true_or, or_true, and_self]; omega)) only [zD_251, b251_0, b251_7, b251_10, b251_14, b251_18, b251_22, b251_26, b251_27, b251_30, qcall_l, qcall_r, qretn_l, qJ_s, qJ_n, qV0, qEx, ↓qif0, ↓zchk_pos, ↓reduceIte, qput, qWW, qmW, qkW, qnW, K_37 hK, hi, hr, hd, Int.reduceEq, Int.reduceLE, true_and, and_self]
    · have r1 := s_writeFormula_n e S w (by omega) hK hP hT hf
      refine bad 1 (by decide) ?_ (key (zbump S) 2 hK (by decide) (Or.inr ⟨hw, rfl, _, hf, r_formulaFaultOf e (zbump S) (zm S 37 2) (zm S 38) (by omega) hK hP (qRT_r hT) rfl rfl⟩))
      simp (config := { maxSteps := 2000000 }) (disch := first | omega | (simp only [K_3 hK, qb_in, qkW, qmW, qnW, true_and, and_true, or_self, true_or, or_true, and_self]; done) | (simp only [K_3 hK, qb_in, qkW, qmW, qnW, true_and, and_true, or_self, true_or, or_true, and_self]; omega)) only [zD_130, b130_0, b130_4, b130_9, b130_22, b130_26, b130_27, b130_30, b130_33, b130_44, b130_47, b130_51, b130_52, qcall_l, qcall_r, qretn_l, qJ_s, qJ_n, qV0, qEx, ↓qif0, ↓zchk_pos, ↓reduceIte, qput, qWW, qmW, qkW, qnW, K_3 hK, cw, r1]
  · have cw := s_checkWhich_n e S w (by omega) hw
    refine bad 0 (by decide) ?_ (key (zbump S) 1 hK (by decide) (Or.inl ⟨hw, rfl⟩))
    simp (config := { maxSteps := 2000000 }) (disch := first | omega | (simp only [K_3 hK, qb_in, qkW, qmW, qnW, true_and, and_true, or_self, true_or, or_true, and_self]; done) | (simp only [K_3 hK, qb_in, qkW, qmW, qnW, true_and, and_true, or_self, true_or, or_true, and_self]; omega)) only [zD_130, b130_0, b130_4, b130_9, b130_22, b130_26, b130_27, b130_30, b130_33, b130_44, b130_47, b130_51, b130_52, qcall_l, qcall_r, qretn_l, qJ_s, qJ_n, qV0, qEx, ↓qif0, ↓zchk_pos, ↓reduceIte, qput, qWW, qmW, qkW, qnW, K_3 hK, cw]
