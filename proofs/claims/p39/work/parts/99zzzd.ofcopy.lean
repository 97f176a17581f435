/-! What is told of a copy: both answer alike. -/
theorem r_ofCopy_h (e : Nat) (S : zS) (m : Int → Int → Int) (k a : Int) (he : 2 ≤ e) (hK : qK S) (r2 : 0 ≤ m 37 65 ∧ m 37 65 ≤ 20) (hk : 0 ≤ k ∧ k < m 37 65) (ha : 0 ≤ a ∧ a ≤ 6) :
    zD (e + 1) 287 [vr 37, vi k, vi a] (qW S m) = zF_287 e 36 [vr 37, vi k, vi a] [] (qW S (qu m 37 0 0)) := by
  have ic := r_iscopy_y e (qW S m) k he hK r2 hk
  have ri := r_in e a 0 6 (qW S m) (by omega)
  rw [qb_p ha] at ri
  have hd := r_hold0 e S m (by omega) hK
  simp (config := { maxSteps := 2000000 }) (disch := first | omega | (simp only [K_37 hK, qb_in, qkW, qmW, qnW, true_and, and_true, or_self, true_or, or_true, and_self]; done) | (simp only [K_37 hK, qb_in, qkW, qmW, qnW, true_and, and_true, or_self, true_or, or_true, and_self]; omega)) only [zD_287, b287_0, b287_6, b287_9, b287_13, b287_20, b287_23, b287_27, b287_28, b287_31, b287_34, b287_41, b287_45, b287_54, b287_59, b287_68, b287_73, b287_78, b287_81, b287_86, b287_87, b287_92, b287_101, b287_106, b287_115, b287_121, qcall_l, qcall_r, qretn_l, qJ_s, qJ_n, qV0, qEx, ↓qif0, ↓zchk_pos, ↓reduceIte, qput, qWW, qmW, qkW, qnW, K_37 hK, ic, ri, hd, Int.reduceEq]
theorem q_ofCopy (d : Nat) (S : zS) (k a : Int) (h : 16 ≤ d) (hH : qHC S) :
    qUn vi qid (qG5 S) S (zD d 139 [vr 3, vi k, vi a] S) (zD d 287 [vr 37, vi k, vi a]) qpsD := by
  obtain ⟨⟨⟨⟨hK, hP, hL, hn⟩, ⟨hT, hC, hR, hkk⟩, ⟨p1, p2, p3, p4, p5, p6⟩, hY⟩, hBB⟩, hYC, hFc⟩ := id hH
  by_cases c1 : 0 ≤ k ∧ k < zm S 37 65
  · obtain ⟨e, rfl, he⟩ := qd h
    obtain ⟨b, x, y, w, t, P, q0⟩ := hYC.2.1 k c1.1 c1.2
    obtain ⟨⟨a1, a2, a3, a4, a5, a6⟩, ⟨b1, b2, b3, b4, b5, b6⟩, ⟨ky, ky1, ky2, y103, yn⟩, ⟨y2, y3, y4⟩, -⟩ := id q0
    have n65 := p4.1.2
    have k20 : k < 20 := by omega
    have co := s_copyOf_y e S k (by omega) hK hP p4.1 c1
    obtain ⟨-, yb, -, yx, y5, y6, y7, y8⟩ := p4.2.1 k c1.1 c1.2
    rw [a3] at co yb yx y5 y6 y7 y8
    rw [a1] at yb yx
    rw [a2] at yx
    -- what lies ready
    have easy : ∀ v : Int, 0 ≤ a → a ≤ 6 → zD (e + 1) 139 [vr 3, vi k, vi a] S = some (.inl (some (vi v)), S) → (∀ m1 : Int → Int → Int, (∀ z, z ≠ 102 → m1 z = zm S z) → qP m1 → zF_287 e 36 [vr 37, vi k, vi a] [] (qW S (qu m1 37 0 0)) = some (.inl (some (vi v)), qW S (qu m1 37 0 0))) → qUn vi qid (qG5 S) S (zD (e + 1) 139 [vr 3, vi k, vi a] S) (zD (e + 1) 287 [vr 37, vi k, vi a]) qpsD := fun v h1 h2 hv hr => by
      refine qUn_k5 hH v hv (fun m1 k1 H1 => ⟨qu m1 37 0 0, ?_, qF0_u m1 0, qu_s _ _ _ _, qHB_0 (S := S) H1 0, Or.inl (by rw [qu_i _ _ _ _ _ (by decide), k1 37 (by decide)])⟩)
      rw [r_ofCopy_h e S m1 k a (by omega) hK (by rw [k1 37 (by decide)]; exact n65) (by rw [k1 37 (by decide)]; exact c1) ⟨h1, h2⟩]
      exact hr m1 k1 H1.1.1.2.1
    have t37 := K_37 hK
    have hk0 := c1.1
    by_cases c2 : 0 ≤ a ∧ a ≤ 6
    · have hcase : a = 0 ∨ a = 1 ∨ a = 2 ∨ a = 3 ∨ a = 4 ∨ a = 5 ∨ a = 6 := by omega
      rcases hcase with rfl | rfl | rfl | rfl | rfl | rfl | rfl
      · refine easy b (by decide) (by decide) ?_ fun m1 k1 hP1 => ?_
        · simp (config := { maxSteps := 2000000 }) (disch := first | omega | (simp only [K_3 hK, ky, qb_in, qkW, qmW, qnW, true_and, and_true, or_self, true_or, or_true, and_self]; done) | (simp only [K_3 hK, ky, qb_in, qkW, qmW, qnW, true_and, and_true, or_self, true_or, or_true, and_self]; omega)) only [zD_139, b139_0, b139_5, b139_48, b139_53, b139_58, b139_63, b139_64, b139_69, b139_74, b139_79, b139_84, i139, w139_7, qcall_l, qcall_r, qretn_l, qJ_s, qJ_n, qV0, qEx, ↓qif0, ↓zchk_pos, ↓reduceIte, qput, qWW, qmW, qkW, qnW, K_3 hK, co, Int.reduceEq, ky, yb]
        · have q66 : qu m1 37 0 0 37 66 = 82 := by rw [qu_i _ _ _ _ _ (by decide)]; exact P_37_66 hP1
          have qv : qu m1 37 0 0 82 k = b := by rw [qu_o _ _ _ _ _ (by decide), k1 82 (by decide), a1]
          obtain ⟨M, hM⟩ : ∃ M, qu m1 37 0 0 = M := ⟨_, rfl⟩
          rw [hM] at q66 qv ⊢
          rw [b287_36]
          simp (config := { maxSteps := 2000000 }) (disch := first | omega | (simp only [t37, K_82 hK, q66, hk0, k20, qb_in, qkW, qmW, qnW, true_and, and_true, or_self, true_or, or_true, and_self]; done) | (simp only [t37, K_82 hK, q66, hk0, k20, qb_in, qkW, qmW, qnW, true_and, and_true, or_self, true_or, or_true, and_self]; omega)) only [b287_0, b287_6, b287_9, b287_13, b287_20, b287_23, b287_27, b287_28, b287_31, b287_34, b287_36, b287_41, b287_45, b287_54, b287_59, b287_68, b287_73, b287_78, b287_81, b287_86, b287_87, b287_92, b287_101, b287_106, b287_115, b287_121, qcall_l, qcall_r, qretn_l, qJ_s, qJ_n, qV0, qEx, ↓qif0, ↓zchk_pos, ↓reduceIte, qput, qWW, qmW, qkW, qnW, t37, K_82 hK, Int.reduceLT, Int.reduceEq, q66, qv]
      · refine easy (zm S 84 k) (by decide) (by decide) ?_ fun m1 k1 hP1 => ?_
        · simp (config := { maxSteps := 2000000 }) (disch := first | omega | (simp only [K_3 hK, ky, qb_in, qkW, qmW, qnW, true_and, and_true, or_self, true_or, or_true, and_self]; done) | (simp only [K_3 hK, ky, qb_in, qkW, qmW, qnW, true_and, and_true, or_self, true_or, or_true, and_self]; omega)) only [zD_139, b139_0, b139_5, b139_48, b139_53, b139_58, b139_63, b139_64, b139_69, b139_74, b139_79, b139_84, i139, w139_7, qcall_l, qcall_r, qretn_l, qJ_s, qJ_n, qV0, qEx, ↓qif0, ↓zchk_pos, ↓reduceIte, qput, qWW, qmW, qkW, qnW, K_3 hK, co, Int.reduceEq, ky, y5]
        · have q66 : qu m1 37 0 0 37 68 = 84 := by rw [qu_i _ _ _ _ _ (by decide)]; exact P_37_68 hP1
          have qv : qu m1 37 0 0 84 k = zm S 84 k := by rw [qu_o _ _ _ _ _ (by decide), k1 84 (by decide)]
          obtain ⟨M, hM⟩ : ∃ M, qu m1 37 0 0 = M := ⟨_, rfl⟩
          rw [hM] at q66 qv ⊢
          rw [b287_36]
          simp (config := { maxSteps := 2000000 }) (disch := first | omega | (simp only [t37, K_84 hK, q66, hk0, k20, qb_in, qkW, qmW, qnW, true_and, and_true, or_self, true_or, or_true, and_self]; done) | (simp only [t37, K_84 hK, q66, hk0, k20, qb_in, qkW, qmW, qnW, true_and, and_true, or_self, true_or, or_true, and_self]; omega)) only [b287_0, b287_6, b287_9, b287_13, b287_20, b287_23, b287_27, b287_28, b287_31, b287_34, b287_36, b287_41, b287_45, b287_54, b287_59, b287_68, b287_73, b287_78, b287_81, b287_86, b287_87, b287_92, b287_101, b287_106, b287_115, b287_121, qcall_l, qcall_r, qretn_l, qJ_s, qJ_n, qV0, qEx, ↓qif0, ↓zchk_pos, ↓reduceIte, qput, qWW, qmW, qkW, qnW, t37, K_84 hK, Int.reduceLT, Int.reduceEq, q66, qv]
      · obtain ⟨⟨-, -, -, x103, xn⟩, -, -, -, -, -, -, ⟨-, J0, J80⟩, -⟩ := hY.2.1 b b1 b2
        rw [a2] at x103 xn
        obtain ⟨J, hJ⟩ : ∃ J : Nat, zm S 54 b = (J : Int) := ⟨(zm S 54 b).toNat, by omega⟩
        obtain ⟨mC, rC, iC⟩ := s_countMisread e S k b x y w t P J (by omega) hH q0 yx hJ
        have fC := qCi_q hP iC
        have HC : qHC (qW S mC) := qHC_f hH fC
        obtain ⟨v, hv⟩ : ∃ v, qmis (qQj S k b x w t) J = v := ⟨_, rfl⟩
        rw [hv] at rC
        have cls : zD (e + 1) 139 [vr 3, vi k, vi 2] S = some (.inl (some (vi v)), qW S mC) := by
          simp (config := { maxSteps := 2000000 }) (disch := first | omega | (simp only [K_3 hK, ky, qb_in, qkW, qmW, qnW, true_and, and_true, or_self, true_or, or_true, and_self]; done) | (simp only [K_3 hK, ky, qb_in, qkW, qmW, qnW, true_and, and_true, or_self, true_or, or_true, and_self]; omega)) only [zD_139, b139_0, b139_5, b139_48, b139_53, b139_58, b139_63, b139_64, b139_69, b139_74, b139_79, b139_84, i139, w139_7, qcall_l, qcall_r, qretn_l, qJ_s, qJ_n, qV0, qEx, ↓qif0, ↓zchk_pos, ↓reduceIte, qput, qWW, qmW, qkW, qnW, K_3 hK, co, Int.reduceEq, rC]
        have row : ∀ z, 22 < z → mC z = zm S z := fun z hz => iC.1 z (by omega)
        have q1 : qCq (qW S mC) k b x y w t P := qCi_cq q0 x103 iC.1
        refine Or.inl ⟨v, qW S mC, cls, qKs_w S _ (iC.1 1 (by decide)), ?_⟩
        obtain ⟨M, hM⟩ : ∃ M, qu mC 102 0 (qid v) = M := ⟨_, rfl⟩
        have hq1 : qo (qW S mC) (qid v) = qW S M := by rw [← hM]; rfl
        rw [hq1]
        have Mo : ∀ z, z ≠ 102 → M z = mC z := fun z hz => by rw [← hM, qu_o _ _ _ _ _ hz]
        have H1 : qHB1 (qW S M) := by
          rw [← hM]
          exact qHB1_f (S := qW S mC) (qHB1_0 HC.1) (qFq_o (qFq_r (qW S mC)) _)
        have M37 : M 37 = zm S 37 := by rw [Mo 37 (by decide), row 37 (by decide)]
        rw [r_ofCopy_h e S M k 2 (by omega) hK (by rw [M37]; exact n65) (by rw [M37]; exact c1) c2]
        have H3 : qHB1 (qW S (qu M 37 0 0)) := qHB_0 (S := S) H1 0
        obtain ⟨m3, hm3⟩ : ∃ m3, qu M 37 0 0 = m3 := ⟨_, rfl⟩
        rw [hm3] at H3 ⊢
        have ag3 : ∀ z i, ¬ (qfly z i ∨ z = 102 ∨ (z = 37 ∧ i = 0)) → m3 z i = mC z i := fun z i hz => by
          rw [← hm3]
          by_cases q : z = 37
          · subst q
            rw [qu_i _ _ _ _ _ (by omega), Mo 37 (by decide)]
          · rw [qu_o _ _ _ _ _ q, Mo z (by omega)]
        obtain ⟨m4, r4, ag4, e75, F4, H4, l4⟩ := r_feelsH (e - 1) (qW S mC) m3 k b x y w t P (by omega) HC H3 (by show 0 ≤ k ∧ k < mC 37 65; rw [row 37 (by decide)]; exact c1) q1 ag3
        have F4' : qFtS S m4 k x w t P := fun p l c p1 p2 l1 l2 c1 c2 => by
          rw [F4 p l c p1 p2 l1 l2 c1 c2]
          show qfwx (mC (x + 2)) (fun q => mC 83 (6 * k + q)) 6 _ = _
          rw [row (x + 2) (by omega), row 83 (by decide)]
        have fl : qFl S m4 k b x w t P := ⟨fun z i hz => by
          rw [ag4 z i (by intro q; rcases q with q | q | q; exact hz (Or.inl q); exact hz (by omega); exact hz (by omega)), ag3 z i (by intro q; rcases q with q | q | q; exact hz (Or.inl q); exact hz (by omega); exact hz (by omega)), iC.1 z (by omega)], F4', H4, l4⟩
        obtain ⟨m5, r5, o5⟩ := r_misread e S m3 k b x y w t P J (by omega) hH c1 q0 hJ m4 r4 fl
        rw [hv] at r5
        have fx5 : qFx S m5 := fun z i hz => by
          have h1 : ¬ qscf z i := fun q => hz (Or.inl (Or.inl q))
          have h2 : ¬ qsxf z i := fun q => hz (Or.inr q)
          have e1 : m5 z i = m4 z i := qFl_q o5 z i fun q => by
            rcases q with q | ⟨c, q1, q2, q3⟩
            · exact h1 q
            · have e6 : zm (qW S m4) 37 4 = zm S 37 4 := fl.1 37 4 (by unfold qfly; omega)
              have e7 : zm (qW S m4) 6 c = zm S 6 c := fl.1 6 c (by unfold qfly; omega)
              rw [e6] at q2
              rw [e7] at q3
              exact hz (Or.inl (Or.inr ⟨c, q1, q2, q3⟩))
          by_cases qc : 18 ≤ z ∧ z ≤ 22
          · have e2 : m4 z i = mC z i := by
              rw [ag4 z i (by unfold qfly; omega), ag3 z i (by unfold qfly; omega)]
            rw [e1, e2]
            exact fC z i fun q => hz (Or.inl q)
          · rw [e1]
            refine fl.1 z i fun q => ?_
            unfold qscf at h1
            unfold qsxf at h2
            unfold qfly at q
            omega
        have H5 : qHB1 (qW S m5) := qHB1_f (S := qW S m4) H4 (qFl_q o5)
        have e75' : m5 37 75 = k := by rw [o5.2 75 (by decide), e75]
        have F5 : qFtS S m5 k x w t P := fun p l c p1 p2 l1 l2 c1 c2 => by
          rw [o5.1 89 (by decide) (by decide)]
          exact F4' p l c p1 p2 l1 l2 c1 c2
        have HF : qHC (qW S m5) := qHC_ft hH fx5 H5 q0 c1 e75' F5
        refine ⟨qW S m5, ?_, qKs_w S _ ?_, ?_, ?_, q5_f hH fx5 HF (q50_l ((o5.2 50 (by decide)).trans l4.1) ⟨b1, b2⟩)⟩
        · rw [b287_36]
          simp (config := { maxSteps := 2000000 }) (disch := first | omega | (simp only [t37, qb_in, qkW, qmW, qnW, true_and, and_true, or_self, true_or, or_true, and_self]; done) | (simp only [t37, qb_in, qkW, qmW, qnW, true_and, and_true, or_self, true_or, or_true, and_self]; omega)) only [b287_0, b287_6, b287_9, b287_13, b287_20, b287_23, b287_27, b287_28, b287_31, b287_34, b287_36, b287_41, b287_45, b287_54, b287_59, b287_68, b287_73, b287_78, b287_81, b287_86, b287_87, b287_92, b287_101, b287_106, b287_115, b287_121, qcall_l, qcall_r, qretn_l, qJ_s, qJ_n, qV0, qEx, ↓qif0, ↓zchk_pos, ↓reduceIte, qput, qWW, qmW, qkW, qnW, t37, Int.reduceLT, Int.reduceEq, r5]
        · rw [o5.1 1 (by decide) (by decide)]
          exact funext fun i => fl.1 1 i (by unfold qfly; omega)
        · show m5 37 0 = 0
          rw [o5.2 0 (by decide), ag4 37 0 (by unfold qfly; omega), ← hm3, qu_s]
        · show m5 102 0 = _
          rw [o5.1 102 (by decide) (by decide), ag4 102 0 (by unfold qfly; omega), ← hm3, qu_o _ _ _ _ _ (by decide), ← hM, qu_s]
      · refine easy (qhp (zm S) k 160) (by decide) (by decide) ?_ fun m1 k1 hP1 => ?_
        · simp (config := { maxSteps := 2000000 }) (disch := first | omega | (simp only [K_3 hK, ky, qb_in, qkW, qmW, qnW, true_and, and_true, or_self, true_or, or_true, and_self]; done) | (simp only [K_3 hK, ky, qb_in, qkW, qmW, qnW, true_and, and_true, or_self, true_or, or_true, and_self]; omega)) only [zD_139, b139_0, b139_5, b139_48, b139_53, b139_58, b139_63, b139_64, b139_69, b139_74, b139_79, b139_84, i139, w139_7, qcall_l, qcall_r, qretn_l, qJ_s, qJ_n, qV0, qEx, ↓qif0, ↓zchk_pos, ↓reduceIte, qput, qWW, qmW, qkW, qnW, K_3 hK, co, Int.reduceEq, ky, y4]
        · have rh := r_hurtPages e (qW S (qu m1 37 0 0)) k (by omega) hK (qP_fr hP1 (qfr_j (A := []) (J := [0]) m1 0 0 (by decide)) (by decide)) ⟨hk0, k20⟩
          have qv : qhp (zm (qW S (qu m1 37 0 0))) k 160 = qhp (zm S) k 160 := qhp_e k 160 fun p _ => by
            show qu m1 37 0 0 85 _ = _
            rw [qu_o _ _ _ _ _ (by decide), k1 85 (by decide)]
          rw [qv] at rh
          obtain ⟨M, hM⟩ : ∃ M, qu m1 37 0 0 = M := ⟨_, rfl⟩
          rw [hM] at rh ⊢
          rw [b287_36]
          simp (config := { maxSteps := 2000000 }) (disch := first | omega | (simp only [t37, qb_in, qkW, qmW, qnW, true_and, and_true, or_self, true_or, or_true, and_self]; done) | (simp only [t37, qb_in, qkW, qmW, qnW, true_and, and_true, or_self, true_or, or_true, and_self]; omega)) only [b287_0, b287_6, b287_9, b287_13, b287_20, b287_23, b287_27, b287_28, b287_31, b287_34, b287_36, b287_41, b287_45, b287_54, b287_59, b287_68, b287_73, b287_78, b287_81, b287_86, b287_87, b287_92, b287_101, b287_106, b287_115, b287_121, qcall_l, qcall_r, qretn_l, qJ_s, qJ_n, qV0, qEx, ↓qif0, ↓zchk_pos, ↓reduceIte, qput, qWW, qmW, qkW, qnW, t37, Int.reduceLT, Int.reduceEq, rh]
      · refine easy (zm S 86 k) (by decide) (by decide) ?_ fun m1 k1 hP1 => ?_
        · simp (config := { maxSteps := 2000000 }) (disch := first | omega | (simp only [K_3 hK, ky, qb_in, qkW, qmW, qnW, true_and, and_true, or_self, true_or, or_true, and_self]; done) | (simp only [K_3 hK, ky, qb_in, qkW, qmW, qnW, true_and, and_true, or_self, true_or, or_true, and_self]; omega)) only [zD_139, b139_0, b139_5, b139_48, b139_53, b139_58, b139_63, b139_64, b139_69, b139_74, b139_79, b139_84, i139, w139_7, qcall_l, qcall_r, qretn_l, qJ_s, qJ_n, qV0, qEx, ↓qif0, ↓zchk_pos, ↓reduceIte, qput, qWW, qmW, qkW, qnW, K_3 hK, co, Int.reduceEq, ky, y6]
        · have q66 : qu m1 37 0 0 37 70 = 86 := by rw [qu_i _ _ _ _ _ (by decide)]; exact P_37_70 hP1
          have qv : qu m1 37 0 0 86 k = zm S 86 k := by rw [qu_o _ _ _ _ _ (by decide), k1 86 (by decide)]
          obtain ⟨M, hM⟩ : ∃ M, qu m1 37 0 0 = M := ⟨_, rfl⟩
          rw [hM] at q66 qv ⊢
          rw [b287_36]
          simp (config := { maxSteps := 2000000 }) (disch := first | omega | (simp only [t37, K_86 hK, q66, hk0, k20, qb_in, qkW, qmW, qnW, true_and, and_true, or_self, true_or, or_true, and_self]; done) | (simp only [t37, K_86 hK, q66, hk0, k20, qb_in, qkW, qmW, qnW, true_and, and_true, or_self, true_or, or_true, and_self]; omega)) only [b287_0, b287_6, b287_9, b287_13, b287_20, b287_23, b287_27, b287_28, b287_31, b287_34, b287_36, b287_41, b287_45, b287_54, b287_59, b287_68, b287_73, b287_78, b287_81, b287_86, b287_87, b287_92, b287_101, b287_106, b287_115, b287_121, qcall_l, qcall_r, qretn_l, qJ_s, qJ_n, qV0, qEx, ↓qif0, ↓zchk_pos, ↓reduceIte, qput, qWW, qmW, qkW, qnW, t37, K_86 hK, Int.reduceLT, Int.reduceEq, q66, qv]
      · refine easy (zm S 87 k) (by decide) (by decide) ?_ fun m1 k1 hP1 => ?_
        · simp (config := { maxSteps := 2000000 }) (disch := first | omega | (simp only [K_3 hK, ky, qb_in, qkW, qmW, qnW, true_and, and_true, or_self, true_or, or_true, and_self]; done) | (simp only [K_3 hK, ky, qb_in, qkW, qmW, qnW, true_and, and_true, or_self, true_or, or_true, and_self]; omega)) only [zD_139, b139_0, b139_5, b139_48, b139_53, b139_58, b139_63, b139_64, b139_69, b139_74, b139_79, b139_84, i139, w139_7, qcall_l, qcall_r, qretn_l, qJ_s, qJ_n, qV0, qEx, ↓qif0, ↓zchk_pos, ↓reduceIte, qput, qWW, qmW, qkW, qnW, K_3 hK, co, Int.reduceEq, ky, y7]
        · have q66 : qu m1 37 0 0 37 71 = 87 := by rw [qu_i _ _ _ _ _ (by decide)]; exact P_37_71 hP1
          have qv : qu m1 37 0 0 87 k = zm S 87 k := by rw [qu_o _ _ _ _ _ (by decide), k1 87 (by decide)]
          obtain ⟨M, hM⟩ : ∃ M, qu m1 37 0 0 = M := ⟨_, rfl⟩
          rw [hM] at q66 qv ⊢
          rw [b287_36]
          simp (config := { maxSteps := 2000000 }) (disch := first | omega | (simp only [t37, K_87 hK, q66, hk0, k20, qb_in, qkW, qmW, qnW, true_and, and_true, or_self, true_or, or_true, and_self]; done) | (simp only [t37, K_87 hK, q66, hk0, k20, qb_in, qkW, qmW, qnW, true_and, and_true, or_self, true_or, or_true, and_self]; omega)) only [b287_0, b287_6, b287_9, b287_13, b287_20, b287_23, b287_27, b287_28, b287_31, b287_34, b287_36, b287_41, b287_45, b287_54, b287_59, b287_68, b287_73, b287_78, b287_81, b287_86, b287_87, b287_92, b287_101, b287_106, b287_115, b287_121, qcall_l, qcall_r, qretn_l, qJ_s, qJ_n, qV0, qEx, ↓qif0, ↓zchk_pos, ↓reduceIte, qput, qWW, qmW, qkW, qnW, t37, K_87 hK, Int.reduceLT, Int.reduceEq, q66, qv]
      · refine easy (zm S 88 k) (by decide) (by decide) ?_ fun m1 k1 hP1 => ?_
        · simp (config := { maxSteps := 2000000 }) (disch := first | omega | (simp only [K_3 hK, ky, qb_in, qkW, qmW, qnW, true_and, and_true, or_self, true_or, or_true, and_self]; done) | (simp only [K_3 hK, ky, qb_in, qkW, qmW, qnW, true_and, and_true, or_self, true_or, or_true, and_self]; omega)) only [zD_139, b139_0, b139_5, b139_48, b139_53, b139_58, b139_63, b139_64, b139_69, b139_74, b139_79, b139_84, i139, w139_7, qcall_l, qcall_r, qretn_l, qJ_s, qJ_n, qV0, qEx, ↓qif0, ↓zchk_pos, ↓reduceIte, qput, qWW, qmW, qkW, qnW, K_3 hK, co, Int.reduceEq, ky, y8]
        · have q66 : qu m1 37 0 0 37 72 = 88 := by rw [qu_i _ _ _ _ _ (by decide)]; exact P_37_72 hP1
          have qv : qu m1 37 0 0 88 k = zm S 88 k := by rw [qu_o _ _ _ _ _ (by decide), k1 88 (by decide)]
          obtain ⟨M, hM⟩ : ∃ M, qu m1 37 0 0 = M := ⟨_, rfl⟩
          rw [hM] at q66 qv ⊢
          rw [b287_36]
          simp (config := { maxSteps := 2000000 }) (disch := first | omega | (simp only [t37, K_88 hK, q66, hk0, k20, qb_in, qkW, qmW, qnW, true_and, and_true, or_self, true_or, or_true, and_self]; done) | (simp only [t37, K_88 hK, q66, hk0, k20, qb_in, qkW, qmW, qnW, true_and, and_true, or_self, true_or, or_true, and_self]; omega)) only [b287_0, b287_6, b287_9, b287_13, b287_20, b287_23, b287_27, b287_28, b287_31, b287_34, b287_36, b287_41, b287_45, b287_54, b287_59, b287_68, b287_73, b287_78, b287_81, b287_86, b287_87, b287_92, b287_101, b287_106, b287_115, b287_121, qcall_l, qcall_r, qretn_l, qJ_s, qJ_n, qV0, qEx, ↓qif0, ↓zchk_pos, ↓reduceIte, qput, qWW, qmW, qkW, qnW, t37, K_88 hK, Int.reduceLT, Int.reduceEq, q66, qv]
    · have hKb : qK (zbump S) := hK
      have ic := r_iscopy_y e (zbump S) k (by omega) hK n65 c1
      have ri := r_in e a 0 6 (zbump S) (by omega)
      rw [qb_n c2] at ri
      have hd := r_refuse e S 2 (by omega) hK (by decide)
      refine qUn_n5 hH ⟨0, ?_, ?_, by decide⟩
      · simp (config := { maxSteps := 2000000 }) (disch := first | omega | (simp only [K_3 hK, qb_in, qkW, qmW, qnW, true_and, and_true, or_self, true_or, or_true, and_self]; done) | (simp only [K_3 hK, qb_in, qkW, qmW, qnW, true_and, and_true, or_self, true_or, or_true, and_self]; omega)) only [zD_139, b139_0, b139_5, b139_48, b139_53, b139_58, b139_63, b139_64, b139_69, b139_74, b139_79, b139_84, i139, w139_7, qcall_l, qcall_r, qretn_l, qJ_s, qJ_n, qV0, qEx, ↓qif0, ↓zchk_pos, ↓reduceIte, qput, qWW, qmW, qkW, qnW, K_3 hK, co, if_neg (show ¬ a = 0 by omega), if_neg (show ¬ a = 1 by omega), if_neg (show ¬ a = 2 by omega), if_neg (show ¬ a = 3 by omega), if_neg (show ¬ a = 4 by omega), if_neg (show ¬ a = 5 by omega), if_neg (show ¬ a = 6 by omega)]
      · simp (config := { maxSteps := 2000000 }) (disch := first | omega | (simp only [K_37 hKb, qb_in, qkW, qmW, qnW, true_and, and_true, or_self, true_or, or_true, and_self]; done) | (simp only [K_37 hKb, qb_in, qkW, qmW, qnW, true_and, and_true, or_self, true_or, or_true, and_self]; omega)) only [zD_287, b287_0, b287_6, b287_9, b287_13, b287_20, b287_23, b287_27, b287_28, b287_31, b287_34, b287_36, b287_41, b287_45, b287_54, b287_59, b287_68, b287_73, b287_78, b287_81, b287_86, b287_87, b287_92, b287_101, b287_106, b287_115, b287_121, qcall_l, qcall_r, qretn_l, qJ_s, qJ_n, qV0, qEx, ↓qif0, ↓zchk_pos, ↓reduceIte, qput, qWW, qmW, qkW, qnW, K_37 hKb, ic, ri, hd, Int.reduceEq]
        rfl
  · exact qUn_n5 hH (q_ofCopy_n d S k a (by omega) hK p4.1 c1)
