/-! Cells of formulas: both answer alike. -/
theorem s_fmCell (d : Nat) (S : zS) (F i : Int) (L : List Int) (h : 1 ≤ d) (hF : qFk S F) (hp : qFp (zm S) F) (hL : qCl (zm S) F L) (hl : L.length ≤ 160) :
    zD d 53 [vr F, vi i] S = some (.inl (some (vi (if 0 ≤ i ∧ i < (L.length : Int) then qnth L i else -1))), S) := by
  obtain ⟨e, rfl, -⟩ := qd h
  obtain ⟨k0, k1, k2, k3, k4, k5, k6⟩ := hF
  have p10 := hp.2.2.2.2.2
  obtain ⟨g1, g2⟩ := hL
  by_cases h1 : i < 0
  · rw [if_neg (show ¬ (0 ≤ i ∧ i < (L.length : Int)) by omega)]
    simp (config := { maxSteps := 2000000 }) (disch := first | omega | (simp only [k0, qb_in, qkW, qmW, qnW, true_and, and_true, or_self, true_or, or_true, and_self]; done) | (simp only [k0, qb_in, qkW, qmW, qnW, true_and, and_true, or_self, true_or, or_true, and_self]; omega)) only [zD_53, b53_0, b53_4, b53_12, b53_21, b53_22, qcall_l, qcall_r, qretn_l, qJ_s, qJ_n, qV0, qEx, ↓qif0, ↓zchk_pos, ↓reduceIte, qput, qWW, qmW, qkW, qnW, k0, if_pos h1]
  · by_cases h2 : i < (L.length : Int)
    · rw [if_pos (show 0 ≤ i ∧ i < (L.length : Int) by omega), ← qA_n g2 i (by omega) h2]
      simp (config := { maxSteps := 2000000 }) (disch := first | omega | (simp only [k0, k6, p10, qb_in, qkW, qmW, qnW, true_and, and_true, or_self, true_or, or_true, and_self]; done) | (simp only [k0, k6, p10, qb_in, qkW, qmW, qnW, true_and, and_true, or_self, true_or, or_true, and_self]; omega)) only [zD_53, b53_0, b53_4, b53_12, b53_21, b53_22, qcall_l, qcall_r, qretn_l, qJ_s, qJ_n, qV0, qEx, ↓qif0, ↓zchk_pos, ↓reduceIte, qput, qWW, qmW, qkW, qnW, k0, k6, p10, g1, if_neg h1, if_pos h2]
    · rw [if_neg (show ¬ (0 ≤ i ∧ i < (L.length : Int)) by omega)]
      simp (config := { maxSteps := 2000000 }) (disch := first | omega | (simp only [k0, qb_in, qkW, qmW, qnW, true_and, and_true, or_self, true_or, or_true, and_self]; done) | (simp only [k0, qb_in, qkW, qmW, qnW, true_and, and_true, or_self, true_or, or_true, and_self]; omega)) only [zD_53, b53_0, b53_4, b53_12, b53_21, b53_22, qcall_l, qcall_r, qretn_l, qJ_s, qJ_n, qV0, qEx, ↓qif0, ↓zchk_pos, ↓reduceIte, qput, qWW, qmW, qkW, qnW, k0, g1, if_neg h1, if_neg h2]
/-- both write the formula of the tape -/
theorem q_formBoth (d d2 : Nat) (S : zS) (w : Int) (h : 190 ≤ d) (h2 : 8 ≤ d2) (hK : qK S) (hP : qP (zm S)) (hL : qLt (zm S)) (hT : qRT S) (hC : qRC S) (hw : w = 0 ∨ w = 1) (hf : qff1 (zm S 38) (zm S 37 2) = -1) :
    ∃ x m1, (qPx (qsy (zm S 38) (zm S 37 2)) 0 0 0 0 qNl (zm S 37 2) x ∧ qwf x ∧ qsz x ≤ 23) ∧ zD d 162 [vr 3, vi w] S = some (.inl none, qW S m1) ∧ qHo m1 23 x ∧ qCl m1 23 (qpr w x) ∧ qFq S m1 ∧
      ∀ m3, qFq S m3 → ∃ m2, zD d2 248 [vr 37, vi w] (qW S (qu m3 37 0 0)) = some (.inl none, qW S m2) ∧ qP m2 ∧ m2 37 92 = (qpr w x).length ∧ qA m2 100 (qpr w x) ∧ qFq S m2 ∧ m2 102 = m3 102 ∧ m2 37 0 = 0 := by
  obtain ⟨x, hx, wx, hz⟩ := q_formula _ _ hT.2.1 hf
  have hc := qff1_c _ _ hT.2.1.1 hf
  obtain ⟨m1, r1, a1, a2, a3⟩ := s_writeFormula_y d S w x h hK hP hL hT hw hf hx wx hz
  refine ⟨x, m1, ⟨hx, wx, hz⟩, r1, a1, a2, a3, fun m3 a3 => ?_⟩
  have q1 : qFq S (qu m3 37 0 0) := qFq_37x a3 (qfr_j (A := []) (J := [0]) _ _ _ (by decide)) (by decide) (by decide)
  have hP1 := qFq_P hC hP q1
  have e38 : qu m3 37 0 0 38 = zm S 38 := qFq_x hC q1 (by decide) fun j => by unfold qscf; omega
  have hv : qTv (qW S (qu m3 37 0 0)) (zm S 38) (zm S 37 2) := ⟨hK, P_37_1 hP1, qFq_37 hC q1 2 (by unfold qscf; omega), e38⟩
  obtain ⟨m2, r2, b1, b2, b3⟩ := r_tells d2 S (zm S 38) (zm S 37 2) w x _ h2 hT.2.1 hT.2.2.2 hc hv hP1 hw hx wx hz
  exact ⟨m2, r2, qP_fr hP1 b3 (by decide), b1, b2, qFq_37x q1 b3 (by decide) (by decide), by rw [b3.1 102 (by decide) (by decide), qu_o _ _ _ _ _ (by decide)], by rw [b3.2 0 (by decide), qu_s]⟩
def qpsA (x : Nat) : Int := if x = 0 then 1 else if x = 1 then 2 else 0
def qpsB (x : Nat) : Int := if x = 0 then 1 else if x = 2 then 2 else if x = 1 then 3 else 0
theorem q_formulaCells (d : Nat) (S : zS) (w : Int) (h : 192 ≤ d) (hK : qK S) (hP : qP (zm S)) (hL : qLt (zm S)) (hT : qRT S) (hC : qRC S) : qAsk vi S (zD d 128 [vr 3, vi w] S) (zD d 249 [vr 37, vi w]) qpsA := by
  obtain ⟨e, rfl, h1⟩ := qd h
  -- what the reference does when something is wrong
  have key : ∀ (Z : zS) (p : Int), qK Z → ¬ p = 0 → (¬ (0 ≤ w ∧ w ≤ 1) ∧ p = 1 ∨ (0 ≤ w ∧ w ≤ 1) ∧ p = 2 ∧ ∃ f, ¬ f = -1 ∧ zD e 236 [vr 37] Z = some (.inl (some (vi f)), Z)) → zD (e + 1) 249 [vr 37, vi w] Z = some (.inl (some (vi 0)), qW Z (qu (zm Z) 37 0 p)) := by
    intro Z p hK hp hc
    have hi := r_in e w 0 1 Z (by omega)
    have hd := r_holds e Z p (by omega) hK
    rw [qb_n hp] at hd
    rcases hc with ⟨h1, rfl⟩ | ⟨h1, rfl, f, h2, h3⟩
    · rw [qb_n h1] at hi
      simp (config := { maxSteps := 2000000 }) (disch := first | omega | (simp only [K_37 hK, qb_in, qkW, qmW, qnW, true_and, and_true, or_self, true_or, or_true, and_self]; done) | (simp only [K_37 hK, qb_in, qkW, qmW, qnW, true_and, and_true, or_self, true_or, or_true, and_self]; omega)) only [zD_249, b249_0, b249_7, b249_10, b249_14, b249_18, b249_22, b249_26, b249_27, b249_30, b249_33, b249_35, b249_40, qcall_l, qcall_r, qretn_l, qJ_s, qJ_n, qV0, qEx, ↓qif0, ↓zchk_pos, ↓reduceIte, qput, qWW, qmW, qkW, qnW, K_37 hK, hi, hd, Int.reduceEq]
    · rw [qb_p h1] at hi
      simp (config := { maxSteps := 2000000 }) (disch := first | omega | (simp only [K_37 hK, qb_in, qkW, qmW, qnW, true_and, and_true, or_self, true_or, or_true, and_self]; done) | (simp only [K_37 hK, qb_in, qkW, qmW, qnW, true_and, and_true, or_self, true_or, or_true, and_self]; omega)) only [zD_249, b249_0, b249_7, b249_10, b249_14, b249_18, b249_22, b249_26, b249_27, b249_30, b249_33, b249_35, b249_40, qcall_l, qcall_r, qretn_l, qJ_s, qJ_n, qV0, qEx, ↓qif0, ↓zchk_pos, ↓reduceIte, qput, qWW, qmW, qkW, qnW, K_37 hK, hi, h3, if_neg h2, hd, Int.reduceEq]
  have bad : ∀ (x : Nat), (¬ qpsA x = 0) → zD (e + 1) 128 [vr 3, vi w] S = some (.inr x, zbump S) → zD (e + 1) 249 [vr 37, vi w] (zbump S) = some (.inl (some (vi 0)), qW (zbump S) (qu (zm S) 37 0 (qpsA x))) → qAsk vi S (zD (e + 1) 128 [vr 3, vi w] S) (zD (e + 1) 249 [vr 37, vi w]) qpsA := fun x hx r1 r2 =>
    Or.inr ⟨x, 0, zm S, qu (zm S) 37 0 (qpsA x), r1, rfl, by rw [qWS]; exact r2, qu_s _ _ _ _, hx, qFq_37x (qFq_r S) (qfr_j (A := []) (J := [0]) _ _ _ (by decide)) (by decide) (by decide)⟩
  by_cases hw : 0 ≤ w ∧ w ≤ 1
  · have cw := s_checkWhich_y e S w (by omega) hw
    by_cases hf : qff1 (zm S 38) (zm S 37 2) = -1
    · obtain ⟨x, m1, hx, r1, a1, a2, q1, tl⟩ := q_formBoth e e S w (by omega) (by omega) hK hP hL hT hC (by omega) hf
      have hP1 := qFq_P hC hP q1
      have g := a2.1
      refine Or.inl ⟨(qpr w x).length, m1, ?_, qFq_1 hC q1, fun o => ?_⟩
      · simp (config := { maxSteps := 2000000 }) (disch := first | omega | (simp only [K_3 hK, K_23 hK, P_3_16 hP, P_3_16 hP1, qb_in, qkW, qmW, qnW, true_and, and_true, or_self, true_or, or_true, and_self]; done) | (simp only [K_3 hK, K_23 hK, P_3_16 hP, P_3_16 hP1, qb_in, qkW, qmW, qnW, true_and, and_true, or_self, true_or, or_true, and_self]; omega)) only [zD_128, b128_0, b128_4, b128_9, qcall_l, qcall_r, qretn_l, qJ_s, qJ_n, qV0, qEx, ↓qif0, ↓zchk_pos, ↓reduceIte, qput, qWW, qmW, qkW, qnW, K_3 hK, K_23 hK, P_3_16 hP, P_3_16 hP1, cw, r1, g]
      have q9 := qFq_o q1 o
      obtain ⟨m9, hm9⟩ : ∃ m9, qu m1 102 0 o = m9 := ⟨_, rfl⟩
      rw [hm9] at q9 ⊢
      obtain ⟨m2, r2, P2, b1, b2, q2, y2, z2⟩ := tl m9 q9
      have hi := r_in e w 0 1 (qW S m9) (by omega)
      rw [qb_p hw] at hi
      have hd := r_holds e (qW S m9) 0 (by omega) hK
      rw [qb_p rfl] at hd
      have hd : zD e 182 [vr 37, vi 0] (qW S m9) = some (.inl (some (vi 1)), qW S (qu m9 37 0 0)) := hd
      have hr := r_faultF e S m9 (by omega) hK hP hT hC q9
      rw [hf] at hr
      refine ⟨m2, ?_, z2, by rw [y2, ← hm9, qu_s], q2⟩
      · simp (config := { maxSteps := 2000000 }) (disch := first | omega | (simp only [K_37 hK, qb_in, qkW, qmW, qnW, true_and, and_true, or_self, true_or, or_true, and_self]; done) | (simp only [K_37 hK, qb_in, qkW, qmW, qnW, true_and, and_true, or_self, true_or, or_true, and_self]; omega)) only [zD_249, b249_0, b249_7, b249_10, b249_14, b249_18, b249_22, b249_26, b249_27, b249_30, b249_33, b249_35, b249_40, qcall_l, qcall_r, qretn_l, qJ_s, qJ_n, qV0, qEx, ↓qif0, ↓zchk_pos, ↓reduceIte, qput, qWW, qmW, qkW, qnW, K_37 hK, hi, hr, hd, r2, b1, Int.reduceEq]
    · have r1 := s_writeFormula_n e S w (by omega) hK hP hT hf
      refine bad 1 (by decide) ?_ (key (zbump S) 2 hK (by decide) (Or.inr ⟨hw, rfl, _, hf, r_formulaFaultOf e (zbump S) (zm S 37 2) (zm S 38) (by omega) hK hP (qRT_r hT) rfl rfl⟩))
      simp (config := { maxSteps := 2000000 }) (disch := first | omega | (simp only [K_3 hK, qb_in, qkW, qmW, qnW, true_and, and_true, or_self, true_or, or_true, and_self]; done) | (simp only [K_3 hK, qb_in, qkW, qmW, qnW, true_and, and_true, or_self, true_or, or_true, and_self]; omega)) only [zD_128, b128_0, b128_4, b128_9, qcall_l, qcall_r, qretn_l, qJ_s, qJ_n, qV0, qEx, ↓qif0, ↓zchk_pos, ↓reduceIte, qput, qWW, qmW, qkW, qnW, K_3 hK, cw, r1]
  · have cw := s_checkWhich_n e S w (by omega) hw
    refine bad 0 (by decide) ?_ (key (zbump S) 1 hK (by decide) (Or.inl ⟨hw, rfl⟩))
    simp (config := { maxSteps := 2000000 }) (disch := first | omega | (simp only [K_3 hK, qb_in, qkW, qmW, qnW, true_and, and_true, or_self, true_or, or_true, and_self]; done) | (simp only [K_3 hK, qb_in, qkW, qmW, qnW, true_and, and_true, or_self, true_or, or_true, and_self]; omega)) only [zD_128, b128_0, b128_4, b128_9, qcall_l, qcall_r, qretn_l, qJ_s, qJ_n, qV0, qEx, ↓qif0, ↓zchk_pos, ↓reduceIte, qput, qWW, qmW, qkW, qnW, K_3 hK, cw]
theorem q_formulaCell (d : Nat) (S : zS) (w i : Int) (h : 192 ≤ d) (hK : qK S) (hP : qP (zm S)) (hL : qLt (zm S)) (hT : qRT S) (hC : qRC S) : qAsk vi S (zD d 129 [vr 3, vi w, vi i] S) (zD d 250 [vr 37, vi w, vi i]) qpsB := by
  obtain ⟨e, rfl, h1⟩ := qd h
  have key : ∀ (Z : zS) (p : Int), qK Z → ¬ p = 0 → (¬ (0 ≤ w ∧ w ≤ 1) ∧ p = 1 ∨ (0 ≤ w ∧ w ≤ 1) ∧ i < 0 ∧ p = 2 ∨ (0 ≤ w ∧ w ≤ 1) ∧ ¬ i < 0 ∧ p = 3 ∧ ∃ f, ¬ f = -1 ∧ zD e 236 [vr 37] Z = some (.inl (some (vi f)), Z)) → zD (e + 1) 250 [vr 37, vi w, vi i] Z = some (.inl (some (vi 0)), qW Z (qu (zm Z) 37 0 p)) := by
    intro Z p hK hp hc
    have hi := r_in e w 0 1 Z (by omega)
    have hd := r_holds e Z p (by omega) hK
    rw [qb_n hp] at hd
    rcases hc with ⟨h1, rfl⟩ | ⟨h1, h0, rfl⟩ | ⟨h1, h0, rfl, f, h2, h3⟩
    · rw [qb_n h1] at hi
      simp (config := { maxSteps := 2000000 }) (disch := first | omega | (simp only [K_37 hK, qb_in, qkW, qmW, qnW, true_and, and_true, or_self, true_or, or_true, and_self]; done) | (simp only [K_37 hK, qb_in, qkW, qmW, qnW, true_and, and_true, or_self, true_or, or_true, and_self]; omega)) only [zD_250, b250_0, b250_7, b250_10, b250_14, b250_18, b250_22, b250_26, b250_30, b250_34, b250_35, b250_38, b250_41, b250_43, b250_48, b250_56, b250_65, b250_66, qcall_l, qcall_r, qretn_l, qJ_s, qJ_n, qV0, qEx, ↓qif0, ↓zchk_pos, ↓reduceIte, qput, qWW, qmW, qkW, qnW, K_37 hK, hi, hd, Int.reduceEq]
    · rw [qb_p h1] at hi
      simp (config := { maxSteps := 2000000 }) (disch := first | omega | (simp only [K_37 hK, qb_in, qkW, qmW, qnW, true_and, and_true, or_self, true_or, or_true, and_self]; done) | (simp only [K_37 hK, qb_in, qkW, qmW, qnW, true_and, and_true, or_self, true_or, or_true, and_self]; omega)) only [zD_250, b250_0, b250_7, b250_10, b250_14, b250_18, b250_22, b250_26, b250_30, b250_34, b250_35, b250_38, b250_41, b250_43, b250_48, b250_56, b250_65, b250_66, qcall_l, qcall_r, qretn_l, qJ_s, qJ_n, qV0, qEx, ↓qif0, ↓zchk_pos, ↓reduceIte, qput, qWW, qmW, qkW, qnW, K_37 hK, hi, if_pos h0, hd, Int.reduceEq]
    · rw [qb_p h1] at hi
      simp (config := { maxSteps := 2000000 }) (disch := first | omega | (simp only [K_37 hK, qb_in, qkW, qmW, qnW, true_and, and_true, or_self, true_or, or_true, and_self]; done) | (simp only [K_37 hK, qb_in, qkW, qmW, qnW, true_and, and_true, or_self, true_or, or_true, and_self]; omega)) only [zD_250, b250_0, b250_7, b250_10, b250_14, b250_18, b250_22, b250_26, b250_30, b250_34, b250_35, b250_38, b250_41, b250_43, b250_48, b250_56, b250_65, b250_66, qcall_l, qcall_r, qretn_l, qJ_s, qJ_n, qV0, qEx, ↓qif0, ↓zchk_pos, ↓reduceIte, qput, qWW, qmW, qkW, qnW, K_37 hK, hi, if_neg h0, h3, if_neg h2, hd, Int.reduceEq]
  have bad : ∀ (x : Nat), (¬ qpsB x = 0) → zD (e + 1) 129 [vr 3, vi w, vi i] S = some (.inr x, zbump S) → zD (e + 1) 250 [vr 37, vi w, vi i] (zbump S) = some (.inl (some (vi 0)), qW (zbump S) (qu (zm S) 37 0 (qpsB x))) → qAsk vi S (zD (e + 1) 129 [vr 3, vi w, vi i] S) (zD (e + 1) 250 [vr 37, vi w, vi i]) qpsB := fun x hx r1 r2 =>
    Or.inr ⟨x, 0, zm S, qu (zm S) 37 0 (qpsB x), r1, rfl, by rw [qWS]; exact r2, qu_s _ _ _ _, hx, qFq_37x (qFq_r S) (qfr_j (A := []) (J := [0]) _ _ _ (by decide)) (by decide) (by decide)⟩
  by_cases hw : 0 ≤ w ∧ w ≤ 1
  · have cw := s_checkWhich_y e S w (by omega) hw
    by_cases h0 : i < 0
    · refine bad 2 (by decide) ?_ (key (zbump S) 2 hK (by decide) (Or.inr (Or.inl ⟨hw, h0, rfl⟩)))
      simp (config := { maxSteps := 2000000 }) (disch := first | omega | (simp only [K_3 hK, qb_in, qkW, qmW, qnW, true_and, and_true, or_self, true_or, or_true, and_self]; done) | (simp only [K_3 hK, qb_in, qkW, qmW, qnW, true_and, and_true, or_self, true_or, or_true, and_self]; omega)) only [zD_129, b129_0, b129_4, b129_8, b129_18, b129_23, b129_31, qcall_l, qcall_r, qretn_l, qJ_s, qJ_n, qV0, qEx, ↓qif0, ↓zchk_pos, ↓reduceIte, qput, qWW, qmW, qkW, qnW, K_3 hK, cw, if_pos h0]
    by_cases hf : qff1 (zm S 38) (zm S 37 2) = -1
    · obtain ⟨x, m1, hx, r1, a1, a2, q1, tl⟩ := q_formBoth e e S w (by omega) (by omega) hK hP hL hT hC (by omega) hf
      have hP1 := qFq_P hC hP q1
      have hl := qpr_l w x hx.2.1
      have fc := s_fmCell e (qW S m1) 23 i (qpr w x) (by omega) (qFk_23 hK) (qFp_23 hP1) a2 (by omega)
      refine Or.inl ⟨(if 0 ≤ i ∧ i < ((qpr w x).length : Int) then qnth (qpr w x) i else -1), m1, ?_, qFq_1 hC q1, fun o => ?_⟩
      · simp (config := { maxSteps := 2000000 }) (disch := first | omega | (simp only [K_3 hK, K_23 hK, P_3_16 hP, P_3_16 hP1, qb_in, qkW, qmW, qnW, true_and, and_true, or_self, true_or, or_true, and_self]; done) | (simp only [K_3 hK, K_23 hK, P_3_16 hP, P_3_16 hP1, qb_in, qkW, qmW, qnW, true_and, and_true, or_self, true_or, or_true, and_self]; omega)) only [zD_129, b129_0, b129_4, b129_8, b129_18, b129_23, b129_31, qcall_l, qcall_r, qretn_l, qJ_s, qJ_n, qV0, qEx, ↓qif0, ↓zchk_pos, ↓reduceIte, qput, qWW, qmW, qkW, qnW, K_3 hK, K_23 hK, P_3_16 hP, P_3_16 hP1, cw, if_neg h0, r1, fc]
      have q9 := qFq_o q1 o
      obtain ⟨m9, hm9⟩ : ∃ m9, qu m1 102 0 o = m9 := ⟨_, rfl⟩
      rw [hm9] at q9 ⊢
      obtain ⟨m2, r2, P2, b1, b2, q2, y2, z2⟩ := tl m9 q9
      have hi := r_in e w 0 1 (qW S m9) (by omega)
      rw [qb_p hw] at hi
      have hd := r_holds e (qW S m9) 0 (by omega) hK
      rw [qb_p rfl] at hd
      have hd : zD e 182 [vr 37, vi 0] (qW S m9) = some (.inl (some (vi 1)), qW S (qu m9 37 0 0)) := hd
      have hr := r_faultF e S m9 (by omega) hK hP hT hC q9
      rw [hf] at hr
      refine ⟨m2, ?_, z2, by rw [y2, ← hm9, qu_s], q2⟩
      · by_cases h2 : i < ((qpr w x).length : Int)
        · rw [if_pos (show 0 ≤ i ∧ i < ((qpr w x).length : Int) by omega), ← qA_n b2 i (by omega) h2]
          simp (config := { maxSteps := 2000000 }) (disch := first | omega | (simp only [K_37 hK, K_100 hK, P_37_91 hP, P_37_91 P2, qb_in, qkW, qmW, qnW, true_and, and_true, or_self, true_or, or_true, and_self]; done) | (simp only [K_37 hK, K_100 hK, P_37_91 hP, P_37_91 P2, qb_in, qkW, qmW, qnW, true_and, and_true, or_self, true_or, or_true, and_self]; omega)) only [zD_250, b250_0, b250_7, b250_10, b250_14, b250_18, b250_22, b250_26, b250_30, b250_34, b250_35, b250_38, b250_41, b250_43, b250_48, b250_56, b250_65, b250_66, qcall_l, qcall_r, qretn_l, qJ_s, qJ_n, qV0, qEx, ↓qif0, ↓zchk_pos, ↓reduceIte, qput, qWW, qmW, qkW, qnW, K_37 hK, K_100 hK, P_37_91 hP, hi, if_neg h0, hr, hd, r2, b1, P_37_91 P2, if_pos h2, Int.reduceEq]
        · rw [if_neg (show ¬ (0 ≤ i ∧ i < ((qpr w x).length : Int)) by omega)]
          simp (config := { maxSteps := 2000000 }) (disch := first | omega | (simp only [K_37 hK, K_100 hK, P_37_91 hP, P_37_91 P2, qb_in, qkW, qmW, qnW, true_and, and_true, or_self, true_or, or_true, and_self]; done) | (simp only [K_37 hK, K_100 hK, P_37_91 hP, P_37_91 P2, qb_in, qkW, qmW, qnW, true_and, and_true, or_self, true_or, or_true, and_self]; omega)) only [zD_250, b250_0, b250_7, b250_10, b250_14, b250_18, b250_22, b250_26, b250_30, b250_34, b250_35, b250_38, b250_41, b250_43, b250_48, b250_56, b250_65, b250_66, qcall_l, qcall_r, qretn_l, qJ_s, qJ_n, qV0, qEx, ↓qif0, ↓zchk_pos, ↓reduceIte, qput, qWW, qmW, qkW, qnW, K_37 hK, K_100 hK, P_37_91 hP, hi, if_neg h0, hr, hd, r2, b1, P_37_91 P2, if_neg h2, Int.reduceEq]
    · have r1 := s_writeFormula_n e S w (by omega) hK hP hT hf
      refine bad 1 (by decide) ?_ (key (zbump S) 3 hK (by decide) (Or.inr (Or.inr ⟨hw, h0, rfl, _, hf, r_formulaFaultOf e (zbump S) (zm S 37 2) (zm S 38) (by omega) hK hP (qRT_r hT) rfl rfl⟩)))
      simp (config := { maxSteps := 2000000 }) (disch := first | omega | (simp only [K_3 hK, qb_in, qkW, qmW, qnW, true_and, and_true, or_self, true_or, or_true, and_self]; done) | (simp only [K_3 hK, qb_in, qkW, qmW, qnW, true_and, and_true, or_self, true_or, or_true, and_self]; omega)) only [zD_129, b129_0, b129_4, b129_8, b129_18, b129_23, b129_31, qcall_l, qcall_r, qretn_l, qJ_s, qJ_n, qV0, qEx, ↓qif0, ↓zchk_pos, ↓reduceIte, qput, qWW, qmW, qkW, qnW, K_3 hK, cw, if_neg h0, r1]
  · have cw := s_checkWhich_n e S w (by omega) hw
    refine bad 0 (by decide) ?_ (key (zbump S) 1 hK (by decide) (Or.inl ⟨hw, rfl⟩))
    simp (config := { maxSteps := 2000000 }) (disch := first | omega | (simp only [K_3 hK, qb_in, qkW, qmW, qnW, true_and, and_true, or_self, true_or, or_true, and_self]; done) | (simp only [K_3 hK, qb_in, qkW, qmW, qnW, true_and, and_true, or_self, true_or, or_true, and_self]; omega)) only [zD_129, b129_0, b129_4, b129_8, b129_18, b129_23, b129_31, qcall_l, qcall_r, qretn_l, qJ_s, qJ_n, qV0, qEx, ↓qif0, ↓zchk_pos, ↓reduceIte, qput, qWW, qmW, qkW, qnW, K_3 hK, cw]
