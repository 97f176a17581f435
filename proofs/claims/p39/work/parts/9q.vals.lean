/-! What the calls that change a house answer is never the law's word for a throw; a refused one leaves the house as it was. -/
def vOk (ok : zS → Prop) (R : zR) : Prop := ∀ (o : zO) (S1 : zS), R = some (o, S1) → (∃ v : Int, o = .inl (some (vi v)) ∧ -9999999 < v) ∨ ∃ x : Nat, o = .inr x ∧ ok S1
theorem vOk_x {ok : zS → Prop} {R : zR} {x : Nat} {S1 : zS} (h : R = some (.inr x, S1)) (hk : ok S1) : vOk ok R := fun o S2 e => by
  rw [h] at e
  cases e
  exact Or.inr ⟨x, rfl, hk⟩
theorem vOk_v {ok : zS → Prop} {R : zR} {v : Int} {S1 : zS} (h : R = some (.inl (some (vi v)), S1)) (hv : -9999999 < v) : vOk ok R := fun o S2 e => by
  rw [h] at e
  cases e
  exact Or.inl ⟨v, rfl, hv⟩
theorem vOk_n {ok : zS → Prop} {ps : Nat → Int} {S : zS} {R : zR} {F : zS → zR} (h : qNo ps S R F) (hk : ok (zbump S)) : vOk ok R := by
  obtain ⟨x, h, -⟩ := h
  exact vOk_x h hk
theorem v_renew (d : Nat) (S : zS) (c p t : Int)  (h : 4 ≤ d) (hK : qK S) (hP : qP (zm S)) (hn : qYn S) : vOk (fun T => T = zbump S) (zD d 136 [vr 3, vi c, vi p, vi t] S) := by
  obtain ⟨e, rfl, h1⟩ := qd h
  have hKb : qK (zbump S) := hK
  by_cases c1 : 0 ≤ c ∧ c < 3
  · by_cases c2 : 0 ≤ p ∧ p < 6
    · by_cases c3 : 1 ≤ t ∧ t ≤ 100000
      · obtain ⟨g1, g2⟩ := hn c p c1.1 c1.2 c2.1 c2.2
        have kp := K_pin hK c1
        have pp := P_pin hP c1
        refine vOk_v (v := zm S 81 (6 * c + p)) (S1 := qW S (qu (zm S) (10 + c) p t)) ?_ (by omega)
        · simp (config := { maxSteps := 2000000 }) (disch := first | omega | (simp only [K_3 hK, K_9 hK, P_3_7 hP, K_9 hK, P_3_7 hP, kp, pp, qb_in, qkW, qmW, qnW, true_and, and_true, or_self, true_or, or_true, and_self]; done) | (simp only [K_3 hK, K_9 hK, P_3_7 hP, K_9 hK, P_3_7 hP, kp, pp, qb_in, qkW, qmW, qnW, true_and, and_true, or_self, true_or, or_true, and_self]; omega)) only [zD_136, b136_0, b136_4, b136_9, b136_13, b136_19, b136_30, b136_35, b136_42, b136_53, b136_68, qcall_l, qcall_r, qretn_l, qJ_s, qJ_n, qV0, qEx, ↓qif0, ↓zchk_pos, ↓reduceIte, qput, qWW, qmW, qkW, qnW, K_3 hK, K_9 hK, P_3_7 hP, K_9 hK, P_3_7 hP, kp, pp, g1, if_neg (show ¬ c < 0 by omega), if_pos c1.2, if_neg (show ¬ p < 0 by omega), if_pos c2.2, if_neg (show ¬ t < 1 by omega), if_neg (show ¬ 100000 < t by omega)]
      · refine vOk_x (x := 0) (S1 := zbump S) ?_ rfl
        · by_cases c4 : t < 1
          · simp (config := { maxSteps := 2000000 }) (disch := first | omega | (simp only [qb_in, qkW, qmW, qnW, true_and, and_true, or_self, true_or, or_true, and_self]; done) | (simp only [qb_in, qkW, qmW, qnW, true_and, and_true, or_self, true_or, or_true, and_self]; omega)) only [zD_136, b136_0, b136_4, b136_9, b136_13, b136_19, b136_30, b136_35, b136_42, b136_53, b136_68, qcall_l, qcall_r, qretn_l, qJ_s, qJ_n, qV0, qEx, ↓qif0, ↓zchk_pos, ↓reduceIte, qput, qWW, qmW, qkW, qnW, if_neg (show ¬ c < 0 by omega), if_pos c1.2, if_neg (show ¬ p < 0 by omega), if_pos c2.2, if_pos c4]
          · simp (config := { maxSteps := 2000000 }) (disch := first | omega | (simp only [qb_in, qkW, qmW, qnW, true_and, and_true, or_self, true_or, or_true, and_self]; done) | (simp only [qb_in, qkW, qmW, qnW, true_and, and_true, or_self, true_or, or_true, and_self]; omega)) only [zD_136, b136_0, b136_4, b136_9, b136_13, b136_19, b136_30, b136_35, b136_42, b136_53, b136_68, qcall_l, qcall_r, qretn_l, qJ_s, qJ_n, qV0, qEx, ↓qif0, ↓zchk_pos, ↓reduceIte, qput, qWW, qmW, qkW, qnW, if_neg (show ¬ c < 0 by omega), if_pos c1.2, if_neg (show ¬ p < 0 by omega), if_pos c2.2, if_neg c4, if_pos (show 100000 < t by omega)]
    · refine vOk_x (x := 2) (S1 := zbump S) ?_ rfl
      · by_cases c4 : p < 0
        · simp (config := { maxSteps := 2000000 }) (disch := first | omega | (simp only [qb_in, qkW, qmW, qnW, true_and, and_true, or_self, true_or, or_true, and_self]; done) | (simp only [qb_in, qkW, qmW, qnW, true_and, and_true, or_self, true_or, or_true, and_self]; omega)) only [zD_136, b136_0, b136_4, b136_9, b136_13, b136_19, b136_30, b136_35, b136_42, b136_53, b136_68, qcall_l, qcall_r, qretn_l, qJ_s, qJ_n, qV0, qEx, ↓qif0, ↓zchk_pos, ↓reduceIte, qput, qWW, qmW, qkW, qnW, if_neg (show ¬ c < 0 by omega), if_pos c1.2, if_pos c4]
        · simp (config := { maxSteps := 2000000 }) (disch := first | omega | (simp only [qb_in, qkW, qmW, qnW, true_and, and_true, or_self, true_or, or_true, and_self]; done) | (simp only [qb_in, qkW, qmW, qnW, true_and, and_true, or_self, true_or, or_true, and_self]; omega)) only [zD_136, b136_0, b136_4, b136_9, b136_13, b136_19, b136_30, b136_35, b136_42, b136_53, b136_68, qcall_l, qcall_r, qretn_l, qJ_s, qJ_n, qV0, qEx, ↓qif0, ↓zchk_pos, ↓reduceIte, qput, qWW, qmW, qkW, qnW, if_neg (show ¬ c < 0 by omega), if_pos c1.2, if_neg c4, if_neg (show ¬ p < 6 by omega)]
  · refine vOk_x (x := 2) (S1 := zbump S) ?_ rfl
    · by_cases c4 : c < 0
      · simp (config := { maxSteps := 2000000 }) (disch := first | omega | (simp only [qb_in, qkW, qmW, qnW, true_and, and_true, or_self, true_or, or_true, and_self]; done) | (simp only [qb_in, qkW, qmW, qnW, true_and, and_true, or_self, true_or, or_true, and_self]; omega)) only [zD_136, b136_0, b136_4, b136_9, b136_13, b136_19, b136_30, b136_35, b136_42, b136_53, b136_68, qcall_l, qcall_r, qretn_l, qJ_s, qJ_n, qV0, qEx, ↓qif0, ↓zchk_pos, ↓reduceIte, qput, qWW, qmW, qkW, qnW, if_pos c4]
      · simp (config := { maxSteps := 2000000 }) (disch := first | omega | (simp only [qb_in, qkW, qmW, qnW, true_and, and_true, or_self, true_or, or_true, and_self]; done) | (simp only [qb_in, qkW, qmW, qnW, true_and, and_true, or_self, true_or, or_true, and_self]; omega)) only [zD_136, b136_0, b136_4, b136_9, b136_13, b136_19, b136_30, b136_35, b136_42, b136_53, b136_68, qcall_l, qcall_r, qretn_l, qJ_s, qJ_n, qV0, qEx, ↓qif0, ↓zchk_pos, ↓reduceIte, qput, qWW, qmW, qkW, qnW, if_neg c4, if_neg (show ¬ c < 3 by omega)]
theorem v_secret (d : Nat) (S : zS) (b t w : Int)  (h : 4 ≤ d) (hK : qK S) (hP : qP (zm S)) (hb : qYb S) : vOk (fun T => T = zbump S) (zD d 145 [vr 3, vi b, vi t, vi w] S) := by
  by_cases c1 : 0 ≤ b ∧ b < zm S 37 16
  · obtain ⟨e, rfl, he⟩ := qd h
    have hKb : qK (zbump S) := hK
    have bo := s_bookOf_y e S b (by omega) hK hP hb.1 c1
    obtain ⟨⟨a1, a2, a3, a4, a5⟩, -, -, -, -, -, -, -, -, c14, c15⟩ := hb.2.1 b c1.1 c1.2
    have hn4 := hb.1.2
    by_cases c2 : (0 ≤ t ∧ t ≤ 1000) ∧ (0 ≤ w ∧ w ≤ 63)
    · obtain ⟨c2, c3⟩ := c2
      generalize hx : zm S 8 b = x at *
      refine vOk_v (v := zm S 62 b) (S1 := qW S (qu (qu (zm S) x 14 t) x 15 w)) ?_ (by omega)
      · simp (config := { maxSteps := 2000000 }) (disch := first | omega | (simp only [K_3 hK, a1, qb_in, qkW, qmW, qnW, true_and, and_true, or_self, true_or, or_true, and_self]; done) | (simp only [K_3 hK, a1, qb_in, qkW, qmW, qnW, true_and, and_true, or_self, true_or, or_true, and_self]; omega)) only [zD_145, b145_0, b145_5, b145_11, b145_18, b145_22, b145_28, b145_39, b145_60, qcall_l, qcall_r, qretn_l, qJ_s, qJ_n, qV0, qEx, ↓qif0, ↓zchk_pos, ↓reduceIte, qput, qWW, qmW, qkW, qnW, K_3 hK, bo, a1, c14.1, if_neg (show ¬ t < 0 by omega), if_neg (show ¬ 1000 < t by omega), if_neg (show ¬ w < 0 by omega), if_neg (show ¬ 63 < w by omega)]
    · refine vOk_x (x := 0) (S1 := zbump S) ?_ rfl
      · by_cases d1 : t < 0
        · simp (config := { maxSteps := 2000000 }) (disch := first | omega | (simp only [K_3 hK, qb_in, qkW, qmW, qnW, true_and, and_true, or_self, true_or, or_true, and_self]; done) | (simp only [K_3 hK, qb_in, qkW, qmW, qnW, true_and, and_true, or_self, true_or, or_true, and_self]; omega)) only [zD_145, b145_0, b145_5, b145_11, b145_18, b145_22, b145_28, b145_39, b145_60, qcall_l, qcall_r, qretn_l, qJ_s, qJ_n, qV0, qEx, ↓qif0, ↓zchk_pos, ↓reduceIte, qput, qWW, qmW, qkW, qnW, K_3 hK, bo, if_pos d1]
        · by_cases d2 : 1000 < t
          · simp (config := { maxSteps := 2000000 }) (disch := first | omega | (simp only [K_3 hK, qb_in, qkW, qmW, qnW, true_and, and_true, or_self, true_or, or_true, and_self]; done) | (simp only [K_3 hK, qb_in, qkW, qmW, qnW, true_and, and_true, or_self, true_or, or_true, and_self]; omega)) only [zD_145, b145_0, b145_5, b145_11, b145_18, b145_22, b145_28, b145_39, b145_60, qcall_l, qcall_r, qretn_l, qJ_s, qJ_n, qV0, qEx, ↓qif0, ↓zchk_pos, ↓reduceIte, qput, qWW, qmW, qkW, qnW, K_3 hK, bo, if_neg d1, if_pos d2]
          · by_cases d3 : w < 0
            · simp (config := { maxSteps := 2000000 }) (disch := first | omega | (simp only [K_3 hK, qb_in, qkW, qmW, qnW, true_and, and_true, or_self, true_or, or_true, and_self]; done) | (simp only [K_3 hK, qb_in, qkW, qmW, qnW, true_and, and_true, or_self, true_or, or_true, and_self]; omega)) only [zD_145, b145_0, b145_5, b145_11, b145_18, b145_22, b145_28, b145_39, b145_60, qcall_l, qcall_r, qretn_l, qJ_s, qJ_n, qV0, qEx, ↓qif0, ↓zchk_pos, ↓reduceIte, qput, qWW, qmW, qkW, qnW, K_3 hK, bo, if_neg d1, if_neg d2, if_pos d3]
            · simp (config := { maxSteps := 2000000 }) (disch := first | omega | (simp only [K_3 hK, qb_in, qkW, qmW, qnW, true_and, and_true, or_self, true_or, or_true, and_self]; done) | (simp only [K_3 hK, qb_in, qkW, qmW, qnW, true_and, and_true, or_self, true_or, or_true, and_self]; omega)) only [zD_145, b145_0, b145_5, b145_11, b145_18, b145_22, b145_28, b145_39, b145_60, qcall_l, qcall_r, qretn_l, qJ_s, qJ_n, qV0, qEx, ↓qif0, ↓zchk_pos, ↓reduceIte, qput, qWW, qmW, qkW, qnW, K_3 hK, bo, if_neg d1, if_neg d2, if_neg d3, if_pos (show 63 < w by omega)]
  · exact vOk_n (q_secret_n d S b t w (by omega) hK hb.1 c1) rfl
theorem v_add_y (e : Nat) (S : zS) (b x : Int) (n : Nat) (he : 14 ≤ e) (hH : qHC S) (hb : 0 ≤ b ∧ b < zm S 37 16) (hx : zm S 8 b = x) (hf : qtf (zm S 38) (zm S 37 2) = -1) (hn : qcw (zm S 38) (zm S 37 2).toNat = (n : Int)) (h80 : zm S 54 b + n ≤ 80) (h13 : zm S x 13 = 0) : vOk (fun T => T = zbump S) (zD (e + 1) 132 [vr 3, vi b] S) := by
  obtain ⟨⟨⟨⟨hK, hP, hL, hn0⟩, ⟨hRT, hC, hR, hk⟩, ⟨p1, p2, p3, p4, p5, p6⟩, hY⟩, hBB⟩, hYC, hFc⟩ := id hH
  have b4 : b < 4 := by have := hY.1.2; omega
  obtain ⟨⟨kx, kx1, kx2, x103, xn⟩, ⟨-, x1a, c1, c2⟩, -, ⟨-, wr⟩, ⟨-, tr⟩, -, -, ⟨x7J, n54⟩, -⟩ := hY.2.1 b hb.1 hb.2
  rw [hx] at kx kx1 kx2 x103 xn x1a x7J
  obtain ⟨cb, co, tk, -⟩ := qRC_1 hC c1 c2
  obtain ⟨J0, fL, fE, fA, fU, fM, P0, l0, q0, ql⟩ := hBB b hb.1 hb.2
  rw [hx] at q0
  have hJ0 : zm S 54 b = (J0 : Int) := q0.1.1
  have n1 : 0 < n := by
    have := (qcw_r (zm S 38) (zm S 37 2).toNat).1
    omega
  obtain ⟨fp, fW, fd, fs, fb, fm, fp0, tx⟩ := qTx_ex (zm S 38) (zm S 37 2) hRT.2.1 hRT.2.2.2 n 0 (Int.le_refl 0) hRT.2.1.1 (by rw [Int.sub_zero]; exact hf) (by rw [hn]; show (n : Int) = n - 1 + 1; omega)
  obtain ⟨pp, hpp⟩ : ∃ pp : Nat → Nat, ∀ i : Nat, qPw (zm S) (fW i) (fd i) = (pp i : Int) ∧ (pp i = 0 ∨ qPk (pp i) (fW i).length) := ⟨fun i => Classical.choose (qPw_p hk hR.2.1.1 (fW i) (fd i)), fun i => Classical.choose_spec (qPw_p hk hR.2.1.1 (fW i) (fd i))⟩
  obtain ⟨a, ha⟩ : ∃ a, zm S 6 (zm S 49 b) = a := ⟨_, rfl⟩
  obtain ⟨Tq, hTq⟩ : ∃ Tq, qTm (zm S) (zm S 49 b) = Tq := ⟨_, rfl⟩
  obtain ⟨Nc, hNc⟩ : ∃ Nc, zm S 39 (zm S 49 b) = Nc := ⟨_, rfl⟩
  obtain ⟨g, hg⟩ : ∃ g, zm S 50 b = g := ⟨_, rfl⟩
  obtain ⟨w, hw⟩ : ∃ w, zm S 51 b = w := ⟨_, rfl⟩
  obtain ⟨t, ht⟩ : ∃ t, zm S 52 b = t := ⟨_, rfl⟩
  rw [ha] at x1a cb
  rw [hw, ht] at q0 ql
  obtain ⟨gL, hgL⟩ : ∃ f : Nat → List Int, (fun j => if j < J0 then fL j else qwL Tq Nc g (fW (j - J0)) (pp (j - J0)) (fd (j - J0)) (fs (j - J0)) (fb (j - J0)) (qmc (fm (j - J0)))) = f := ⟨_, rfl⟩
  obtain ⟨gE, hgE⟩ : ∃ f : Nat → List Int, (fun j => if j < J0 then fE j else qwE Tq Nc g (fW (j - J0)) (pp (j - J0)) (fd (j - J0)) (fs (j - J0)) (fb (j - J0))) = f := ⟨_, rfl⟩
  obtain ⟨gU, hgU⟩ : ∃ f : Nat → Int, (fun j => if j < J0 then fU j else qwU Tq Nc g (fW (j - J0)) (pp (j - J0)) (fd (j - J0))) = f := ⟨_, rfl⟩
  obtain ⟨gM, hgM⟩ : ∃ f : Nat → Int, (fun j => if j < J0 then fM j else qwM Tq Nc g (fW (j - J0)) (pp (j - J0)) (fd (j - J0))) = f := ⟨_, rfl⟩
  obtain ⟨gA, hgA⟩ : ∃ f : Nat → Int, (fun j => if j < J0 then fA j else qah_ (zm S 38) (fp (j - J0)) (j - J0)) = f := ⟨_, rfl⟩
  have ext : ∀ j, j < J0 → gL j = fL j ∧ gE j = fE j ∧ gA j = fA j ∧ gU j = fU j ∧ gM j = fM j := fun j hj => by
    rw [← hgL, ← hgE, ← hgA, ← hgU, ← hgM]
    exact ⟨if_pos hj, if_pos hj, if_pos hj, if_pos hj, if_pos hj⟩
  have new : ∀ i : Nat, gL (J0 + i) = qwL Tq Nc g (fW i) (pp i) (fd i) (fs i) (fb i) (qmc (fm i)) ∧ gE (J0 + i) = qwE Tq Nc g (fW i) (pp i) (fd i) (fs i) (fb i) ∧ gU (J0 + i) = qwU Tq Nc g (fW i) (pp i) (fd i) ∧ gM (J0 + i) = qwM Tq Nc g (fW i) (pp i) (fd i) ∧ gA (J0 + i) = qah_ (zm S 38) (fp i) i := fun i => by
    have e : J0 + i - J0 = i := by omega
    have hn : ¬ J0 + i < J0 := by omega
    rw [← hgL, ← hgE, ← hgA, ← hgU, ← hgM]
    simp only [if_neg hn, e, and_self]
  have oldo := qB_J q0
  have H : qAdH S b x (zm S 49 b) a g w t Nc Tq J0 n (zm S 38) (zm S 37 2) fp fW fd fs fb fm pp gL gE gA gU gM := by
    refine ⟨⟨hb, hx, rfl, ha, hg, hw, ht, hNc, hTq⟩, ⟨hJ0, by omega⟩, ⟨rfl, rfl⟩, ⟨tx, fp0⟩, fun i hi => ⟨(hpp i).1, (hpp i).2, ?_⟩, fun i _ => new i, fun j hj => ?_, fun hj => ?_⟩
    · rw [← (hpp i).1]
      exact qPw_4 hR _ _ (tx i hi).2.2.2.1.1.1
    · obtain ⟨g1, g2, g3, -⟩ := ext j hj
      rw [g1, g2, g3]
      exact oldo j hj
    · rw [(ext 0 hj).2.2.1]
      exact q0.1.2.2 hj
  have ecb : qZn w t gL gE gA J0 = qZn w t fL fE fA J0 := qZn_c (w := w) (t := t) J0 fun i hi => ⟨(ext i hi).1, (ext i hi).2.1, (ext i hi).2.2.1⟩
  have he13 : 13 ≤ e := by omega
  obtain ⟨Z, C, cls, A⟩ := q_add_c e he13 hH H hf hn h13 (by rw [ecb]; exact q0.2.2)
  have A0 := A
  obtain ⟨⟨A1, A2, A3⟩, Ak, Am, -⟩ := A
  have hKZ : qK Z := qK_g hK hn0 Ak
  have a103 := cb.2.2.2.2.2.2.2.2.2.1
  have pa30 := cb.2.2.2.2.2.2.2.2.1
  have Cl : ∀ z, z < 103 → C z = zm S z := q_add_l hn0 x103 a103 Am
  have Ak3 : ∀ z : Int, z < 103 → zk Z z = zk S z := fun z hz => Ak z (Int.lt_of_lt_of_le hz hn0)
  exact vOk_v (S1 := _) (cls) (by omega)
theorem v_add (d : Nat) (S : zS) (b : Int) (h : 15 ≤ d) (hH : qHC S) : vOk (fun T => T = zbump S) (zD d 132 [vr 3, vi b] S) := by
  obtain ⟨⟨⟨⟨hK, hP, hL, hn0⟩, ⟨hRT, hC, hR, hk⟩, ⟨p1, p2, p3, p4, p5, p6⟩, hY⟩, hBB⟩, hYC, hFc⟩ := id hH
  by_cases c1 : 0 ≤ b ∧ b < zm S 37 16
  · obtain ⟨e, rfl, he⟩ := qd h
    have hKb : qK (zbump S) := hK
    have b4 : b < 4 := by have := hY.1.2; omega
    have bo := s_bookOf_y e S b (by omega) hK hP hY.1 c1
    have fa := s_faultAsText' e S (by omega) hK hP hRT
    have wt := r_wordsOfTape e (zbump S) (by omega) hK hP hRT
    rw [show zm (zbump S) 38 = zm S 38 from rfl, show zm (zbump S) 37 2 = zm S 37 2 from rfl] at wt
    have ib := r_isbook_y e (zbump S) b (by omega) hK hY.1.2 c1
    obtain ⟨⟨kx, -⟩, -, -, -, -, -, -, ⟨x7J, n54⟩, -⟩ := hY.2.1 b c1.1 c1.2
    by_cases c2 : qtf (zm S 38) (zm S 37 2) = -1
    · rw [if_pos c2] at wt
      have cw := s_countWords e S (zm S 37 2) (by omega) hK (P_4_0 hP) hRT.1 hRT.2.1
      rw [qcw_e hRT.2.2.1 hRT.2.1.1] at cw
      obtain ⟨n, hn⟩ : ∃ n : Nat, qcw (zm S 38) (zm S 37 2).toNat = (n : Int) := ⟨(qcw (zm S 38) (zm S 37 2).toNat).toNat, by have := (qcw_r (zm S 38) (zm S 37 2).toNat).1; omega⟩
      have n1 := qcw_r (zm S 38) (zm S 37 2).toNat
      rw [hn] at wt cw n1
      by_cases c3 : zm S 54 b + n ≤ 80 ∧ zm S (zm S 8 b) 13 = 0
      · exact v_add_y e S b _ n he hH c1 rfl c2 hn c3.1 c3.2
      · have e13 := hYC.1 b c1.1 c1.2
        have r13 := qbn_r (zm S) b (zm S 37 65).toNat
        have cp := r_copiesOf e (zbump S) b (by omega) hK hP p4.1.2
        rw [show qbn (zm (zbump S)) b (zm (zbump S) 37 65).toNat = zm S (zm S 8 b) 13 from e13.symm] at cp
        have p22 : zm (zbump S) 37 22 = 54 := P_37_22 hP
        have hd := r_refuse e S 3 (by omega) hK (by decide)
        have nn : ¬ (n : Int) = 0 := by omega
        have N60 := hRT.2.1
        have zz : z32 (zm S 54 b + (n : Int)) = zm S 54 b + n := q32 (by omega)
        have e54 : zm (zbump S) 54 b = zm S 54 b := rfl
        refine vOk_x (x := 1) (S1 := zbump S) ?_ rfl
        · by_cases c4 : 80 < zm S 54 b + n
          · simp (config := { maxSteps := 2000000 }) (disch := first | omega | (simp only [K_3 hK, K_4 hK, P_3_0 hP, kx, qb_in, qkW, qmW, qnW, true_and, and_true, or_self, true_or, or_true, and_self]; done) | (simp only [K_3 hK, K_4 hK, P_3_0 hP, kx, qb_in, qkW, qmW, qnW, true_and, and_true, or_self, true_or, or_true, and_self]; omega)) only [zD_132, b132_0, b132_5, b132_13, b132_17, b132_28, b132_39, b132_45, b132_52, b132_63, b132_70, b132_87, b132_94, b132_110, b132_124, b132_129, b132_141, b132_154, b132_156, b132_167, qcall_l, qcall_r, qretn_l, qJ_s, qJ_n, qV0, qEx, ↓qif0, ↓zchk_pos, ↓reduceIte, qput, qWW, qmW, qkW, qnW, K_3 hK, K_4 hK, P_3_0 hP, bo, fa, c2, kx, cw, x7J, zz, if_pos c4]
          · simp (config := { maxSteps := 2000000 }) (disch := first | omega | (simp only [K_3 hK, K_4 hK, P_3_0 hP, kx, qb_in, qkW, qmW, qnW, true_and, and_true, or_self, true_or, or_true, and_self]; done) | (simp only [K_3 hK, K_4 hK, P_3_0 hP, kx, qb_in, qkW, qmW, qnW, true_and, and_true, or_self, true_or, or_true, and_self]; omega)) only [zD_132, b132_0, b132_5, b132_13, b132_17, b132_28, b132_39, b132_45, b132_52, b132_63, b132_70, b132_87, b132_94, b132_110, b132_124, b132_129, b132_141, b132_154, b132_156, b132_167, qcall_l, qcall_r, qretn_l, qJ_s, qJ_n, qV0, qEx, ↓qif0, ↓zchk_pos, ↓reduceIte, qput, qWW, qmW, qkW, qnW, K_3 hK, K_4 hK, P_3_0 hP, bo, fa, c2, kx, cw, x7J, zz, if_neg c4, if_pos (show 0 < zm S (zm S 8 b) 13 by omega)]
    · rw [if_neg c2] at wt
      have hd := r_refuse e S 2 (by omega) hK (by decide)
      refine vOk_x (x := 0) (S1 := zbump S) ?_ rfl
      · simp (config := { maxSteps := 2000000 }) (disch := first | omega | (simp only [K_3 hK, K_4 hK, P_3_0 hP, qb_in, qkW, qmW, qnW, true_and, and_true, or_self, true_or, or_true, and_self]; done) | (simp only [K_3 hK, K_4 hK, P_3_0 hP, qb_in, qkW, qmW, qnW, true_and, and_true, or_self, true_or, or_true, and_self]; omega)) only [zD_132, b132_0, b132_5, b132_13, b132_17, b132_28, b132_39, b132_45, b132_52, b132_63, b132_70, b132_87, b132_94, b132_110, b132_124, b132_129, b132_141, b132_154, b132_156, b132_167, qcall_l, qcall_r, qretn_l, qJ_s, qJ_n, qV0, qEx, ↓qif0, ↓zchk_pos, ↓reduceIte, qput, qWW, qmW, qkW, qnW, K_3 hK, K_4 hK, P_3_0 hP, bo, fa, if_neg c2]
  · exact vOk_n (q_add_n d S b (by omega) hK hP hRT hY.1 c1) rfl
theorem v_emboss_y5 (e : Nat) (S : zS) (k c b x w t P : Int) (he : 13 ≤ e) (hH : qHC S) (hk : zm S 37 65 = k) (hk20 : k < 20) (hb : 0 ≤ b ∧ b < zm S 37 16) (hx : zm S 8 b = x) (hc : 0 ≤ c ∧ c < 3) (hw : zm S 51 b = w) (ht : zm S 52 b = t) (hP : zm S x 9 = P) (h54 : 0 < zm S 54 b) : vOk (fun T => T = zbump S) (zD (e + 1) 137 [vr 3, vi c, vi b] S) := by
  obtain ⟨⟨⟨⟨hK, hPp, hL, hn1⟩, -, ⟨p1, p2, p3, p4, p5, p6⟩, hY⟩, hBB⟩, hYC, hFc⟩ := id hH
  have k0 : 0 ≤ k := by rw [← hk]; exact p4.1.2.1
  have he12 : 12 ≤ e := by omega
  obtain ⟨⟨kx, kx1, kx2, x103, xn⟩, -, -, ⟨x3, wr⟩, ⟨x4, tr⟩, ⟨-, h53⟩, -, -, x8, -⟩ := hY.2.1 b hb.1 hb.2
  rw [hx] at kx kx1 kx2 x103 xn x3 x4 x8
  rw [hw] at x3 wr kx2
  rw [ht] at x4 tr kx2
  have Pr : 0 ≤ P ∧ P ≤ qmp t ∧ P ≤ 121 := by
    obtain ⟨J, fL, fE, fA, fU, fM, P', ll, w0, -⟩ := hBB b hb.1 hb.2
    obtain ⟨Pr, x9, -⟩ := qB0_P w0 (by rw [hw]; exact wr.1) (by rw [ht]; exact tr)
    rw [hx, hP] at x9
    rw [ht] at Pr
    rw [x9]
    exact Pr
  have cc := (s_countCl 1 S x w t P (by omega) kx kx2 x3 x4 x8 hP wr tr ⟨Pr.1, Pr.2.1⟩).2
  obtain ⟨n, hn⟩ : ∃ n : Nat, P * (t * w) = (n : Int) := ⟨(P * (t * w)).toNat, by omega⟩
  obtain ⟨f, hf⟩ : ∃ f, zm S (x + 2) = f := ⟨_, rfl⟩
  obtain ⟨cp, hcp⟩ : ∃ cp : Int → Int, (fun q => zm S 81 (6 * c + q)) = cp := ⟨_, rfl⟩
  have hcp : ∀ q, 0 ≤ q → q < 6 → zm S 81 (6 * c + q) = cp q := fun q _ _ => by rw [← hcp]
  have cpr : ∀ q, 0 ≤ q → q < 6 → 0 ≤ cp q ∧ cp q ≤ 100000 := fun q q1 q2 => by rw [← hcp q q1 q2]; exact (p1 c q hc.1 hc.2 q1 q2).2
  obtain ⟨T, C, rC, ⟨nT, zT, wT⟩, kT, Co, ⟨C3, C39⟩, C13, C10, ⟨Cx, Cx13⟩, CN, CF, CH, -, -, n14⟩ := s_emboss e S k c b x w t P n f cp (by omega) hH hk hk20 hb hx hc hw ht hP h54 hn hf hcp
  have xn2 : x + 2 < zn S := by omega
  have C1 : C 1 = zm S 1 := Co 1 (by omega) (by decide) (by decide) (by omega) (by omega)
  have kT' := q_em_k kT hn1
  clear cc
  exact vOk_v (S1 := qW T C) (rC) (by omega)
theorem v_emboss5 (d : Nat) (S : zS) (c b : Int) (h : 14 ≤ d) (hH : qHC S) : vOk (fun T => T = zbump S) (zD d 137 [vr 3, vi c, vi b] S) := by
  obtain ⟨⟨⟨⟨hK, hP, hL, hn⟩, -, ⟨p1, p2, p3, p4, p5, p6⟩, hY⟩, hBB⟩, hYC, hFc⟩ := id hH
  by_cases c0 : (0 ≤ c ∧ c < 3) ∧ (0 ≤ b ∧ b < zm S 37 16)
  · obtain ⟨hc, hb⟩ := c0
    obtain ⟨e, rfl, he⟩ := qd h
    by_cases c1 : zm S 54 b = 0 ∨ zm S 37 65 = 20
    · have hKb : qK (zbump S) := hK
      obtain ⟨⟨kx, -⟩, -, -, -, -, -, -, ⟨x7, -⟩, -⟩ := hY.2.1 b hb.1 hb.2
      have bo := s_bookOf_y e S b (by omega) hK hP hY.1 hb
      have b4 : b < 4 := by have := hY.1.2; omega
      have n65 := p4.1
      refine vOk_x (x := 1) (S1 := zbump S) ?_ rfl
      · by_cases c2 : zm S 54 b = 0
        · simp (config := { maxSteps := 2000000 }) (disch := first | omega | (simp only [K_3 hK, kx, qb_in, qkW, qmW, qnW, true_and, and_true, or_self, true_or, or_true, and_self]; done) | (simp only [K_3 hK, kx, qb_in, qkW, qmW, qnW, true_and, and_true, or_self, true_or, or_true, and_self]; omega)) only [zD_137, b137_0, b137_4, b137_9, b137_20, b137_25, b137_33, b137_42, b137_53, b137_62, b137_75, b137_93, b137_110, qcall_l, qcall_r, qretn_l, qJ_s, qJ_n, qV0, qEx, ↓qif0, ↓zchk_pos, ↓reduceIte, qput, qWW, qmW, qkW, qnW, K_3 hK, if_neg (show ¬ c < 0 by omega), if_pos hc.2, bo, kx, x7, if_pos c2]
        · simp (config := { maxSteps := 2000000 }) (disch := first | omega | (simp only [K_3 hK, kx, qb_in, qkW, qmW, qnW, true_and, and_true, or_self, true_or, or_true, and_self]; done) | (simp only [K_3 hK, kx, qb_in, qkW, qmW, qnW, true_and, and_true, or_self, true_or, or_true, and_self]; omega)) only [zD_137, b137_0, b137_4, b137_9, b137_20, b137_25, b137_33, b137_42, b137_53, b137_62, b137_75, b137_93, b137_110, qcall_l, qcall_r, qretn_l, qJ_s, qJ_n, qV0, qEx, ↓qif0, ↓zchk_pos, ↓reduceIte, qput, qWW, qmW, qkW, qnW, K_3 hK, if_neg (show ¬ c < 0 by omega), if_pos hc.2, bo, kx, x7, if_neg c2, n65.1, if_neg (show ¬ zm S 37 65 < 20 by omega)]
    · have n54 := (hY.2.1 b hb.1 hb.2).2.2.2.2.2.2.2.1.2
      have n65 := p4.1.2
      exact v_emboss_y5 e S _ c b _ _ _ _ he hH rfl (by omega) hb rfl hc rfl rfl rfl (by omega)
  · exact vOk_n (q_emboss_n d S c b (by omega) hK hY.1 (by omega)) rfl
theorem v_teach5 (d : Nat) (S : zS) (r c x : Int) (h : 4 ≤ d) (hH : qHC S) : vOk (fun T => T = zbump S) (zD d 142 [vr 3, vi r, vi c, vi x] S) := by
  obtain ⟨⟨⟨⟨hK, hP, hL, hn⟩, ⟨hT, hC, hR, hk⟩, ⟨p1, p2, p3, p4, p5, p6⟩, hY⟩, hBB⟩, hYC, hFc⟩ := id hH
  have hKb : qK (zbump S) := hK
  by_cases c1 : 0 ≤ r ∧ r < zm S 37 76
  · obtain ⟨e, rfl, he⟩ := qd h
    have ro := s_readerOf_y e S r (by omega) hK hP p5.1 c1
    obtain ⟨⟨kr, kk, x0, x1, x2⟩, -, -, -, -, rk⟩ := p5.2.1 r c1.1 c1.2
    have irb := r_isreader_y e (zbump S) r (by omega) hK p5.1.2 c1
    have hd1 := r_refuse e S 1 (by omega) hK (by decide)
    have r6 : r < 6 := by have := p5.1.2; omega
    by_cases c2 : 0 ≤ c ∧ c < zm S 37 4
    · have co := s_codeOf_y e S c (by omega) hK hP hC c2
      obtain ⟨⟨kc, -⟩, ⟨-, -, cn, N24, -⟩, -⟩ := hC.2.2.1 c c2.1 c2.2
      have c03 : c < 3 := by have := hC.2.1; omega
      have icb := r_isCode' e (zbump S) c (by omega) hKb hC.2.1
      rw [qb_p (show 0 ≤ c ∧ c ≤ zm (zbump S) 37 4 - 1 by show 0 ≤ c ∧ c ≤ zm S 37 4 - 1; omega)] at icb
      have zN : z32 (zm S 39 c - 1) = zm S 39 c - 1 := q32 (by omega)
      have p5' := P_37_5 hP
      by_cases c3 : 0 ≤ x ∧ x < zm S 39 c
      · -- it is taught
        obtain ⟨K1, K2, K3⟩ := rk c c2.1 c03
        obtain ⟨v, hv, v24⟩ := zor_24 (K := zm S 91 (3 * r + c)) ⟨K2, K3⟩ (x := x) ⟨c3.1, by omega⟩
        obtain ⟨y, hy⟩ : ∃ y, zm S 14 r = y := ⟨_, rfl⟩
        rw [hy] at ro kr kk x0 x1 x2 K1
        have sb := s_bitCount e v (qW S (qu (zm S) (y + 1) c (v : Int))) (by omega) v24
        have ey : qu (zm S) (y + 1) c (v : Int) y = zm S y := qu_o _ _ _ _ _ (by omega)
        refine vOk_v (v := (qpc 24 v : Nat)) (S1 := qW S (qu (zm S) (y + 1) c (v : Int))) ?_ (by omega)
        · simp (config := { maxSteps := 2000000 }) (disch := first | omega | (simp only [K_3 hK, kr, kk, x2, ey, c2.1, c03, qb_in, qkW, qmW, qnW, true_and, and_true, or_self, true_or, or_true, and_self]; done) | (simp only [K_3 hK, kr, kk, x2, ey, c2.1, c03, qb_in, qkW, qmW, qnW, true_and, and_true, or_self, true_or, or_true, and_self]; omega)) only [zD_142, b142_0, b142_5, b142_12, b142_18, b142_27, b142_38, b142_51, b142_61, qcall_l, qcall_r, qretn_l, qJ_s, qJ_n, qV0, qEx, ↓qif0, ↓zchk_pos, ↓reduceIte, qput, qWW, qmW, qkW, qnW, K_3 hK, ro, co, kr, kk, kc, cn, if_neg (show ¬ x < 0 by omega), if_pos c3.2, x2, K1, hv, ey, qu_s, sb]
      · refine vOk_x (x := 2) (S1 := zbump S) ?_ rfl
        · by_cases c4 : x < 0
          · simp (config := { maxSteps := 2000000 }) (disch := first | omega | (simp only [K_3 hK, kr, kc, qb_in, qkW, qmW, qnW, true_and, and_true, or_self, true_or, or_true, and_self]; done) | (simp only [K_3 hK, kr, kc, qb_in, qkW, qmW, qnW, true_and, and_true, or_self, true_or, or_true, and_self]; omega)) only [zD_142, b142_0, b142_5, b142_12, b142_18, b142_27, b142_38, b142_51, b142_61, qcall_l, qcall_r, qretn_l, qJ_s, qJ_n, qV0, qEx, ↓qif0, ↓zchk_pos, ↓reduceIte, qput, qWW, qmW, qkW, qnW, K_3 hK, ro, co, kr, kc, if_pos c4]
          · simp (config := { maxSteps := 2000000 }) (disch := first | omega | (simp only [K_3 hK, kr, kc, qb_in, qkW, qmW, qnW, true_and, and_true, or_self, true_or, or_true, and_self]; done) | (simp only [K_3 hK, kr, kc, qb_in, qkW, qmW, qnW, true_and, and_true, or_self, true_or, or_true, and_self]; omega)) only [zD_142, b142_0, b142_5, b142_12, b142_18, b142_27, b142_38, b142_51, b142_61, qcall_l, qcall_r, qretn_l, qJ_s, qJ_n, qV0, qEx, ↓qif0, ↓zchk_pos, ↓reduceIte, qput, qWW, qmW, qkW, qnW, K_3 hK, ro, co, kr, kc, cn, if_neg c4, if_neg (show ¬ x < zm S 39 c by omega)]
    · refine vOk_x (x := 2) (S1 := zbump S) ?_ rfl
      · have co := s_codeOf_n e S c (by omega) hK hC c2
        simp (config := { maxSteps := 2000000 }) (disch := first | omega | (simp only [K_3 hK, kr, qb_in, qkW, qmW, qnW, true_and, and_true, or_self, true_or, or_true, and_self]; done) | (simp only [K_3 hK, kr, qb_in, qkW, qmW, qnW, true_and, and_true, or_self, true_or, or_true, and_self]; omega)) only [zD_142, b142_0, b142_5, b142_12, b142_18, b142_27, b142_38, b142_51, b142_61, qcall_l, qcall_r, qretn_l, qJ_s, qJ_n, qV0, qEx, ↓qif0, ↓zchk_pos, ↓reduceIte, qput, qWW, qmW, qkW, qnW, K_3 hK, ro, co, kr]
  · exact vOk_n (q_teach_n d S r c x (by omega) hK p5.1 c1) rfl
theorem v_wish_y5 (e : Nat) (S : zS) (r b : Int) (he : 14 ≤ e) (hH : qHC S) (c1 : 0 ≤ r ∧ r < zm S 37 76) (c2 : 0 ≤ b ∧ b < zm S 37 16) (hu : quk (zm S) r b = 0) (hw0 : qwi (zm S) r b (zm S 37 80).toNat = -1) (hq : qhl (zm S) r b (zm S 37 65).toNat = 0) (c6 : zm S 37 80 < 30) : vOk (fun T => T = zbump S) (zD (e + 1) 144 [vr 3, vi r, vi b] S) := by
  obtain ⟨⟨⟨⟨hK, hP, hL, hn⟩, ⟨hT, hC, hR, hk⟩, ⟨p1, p2, p3, p4, p5, p6⟩, hY⟩, hBB⟩, hYC, hFc⟩ := id hH
  have ro := s_readerOf_y e S r (by omega) hK hP p5.1 c1
  have r6 : 0 ≤ r ∧ r < 6 := ⟨c1.1, by have := p5.1.2; omega⟩
  have bo := s_bookOf_y e S b (by omega) hK hP hY.1 c2
  have su := s_countUnknown e S r b (by omega) hH.1 c1 c2
  have fi := s_find e S r b (by omega) hK hP p3
  have hc := s_hasCopyOf e S r b (by omega) hK hP p4 (by omega)
  obtain ⟨n80, n80b, n80c⟩ := p3.1
  have n65 := p4.1.2
  have p17 : ∀ i, 0 ≤ i → i < zm S 37 80 → zm S 17 i = zm S 94 i := fun i i1 i2 => (p3.2.1 i i1 i2).2.1
  have n76 := p5.1.2
  rw [hu] at su
  rw [hw0] at fi
  rw [hq] at hc
  clear p1 p2 p3 p4 p5 p6 hT hR hk hYC hFc
  obtain ⟨n, hnn⟩ : ∃ n : Nat, zm S 37 80 = (n : Int) := ⟨(zm S 37 80).toNat, by omega⟩
  rw [hnn] at n80 n80b n80c c6
  have zr : -2147483648 ≤ (n : Int) + 1 ∧ (n : Int) + 1 < 2147483648 := by omega
  have wa := s_wishAppend e S r b n (by omega) hK hP n80 ⟨by omega, c6⟩
  obtain ⟨A, hA⟩ : ∃ A, qu (qu (qu (zm S) 16 n r) 17 n b) 15 2 ((n : Int) + 1) = A := ⟨_, rfl⟩
  rw [hA] at wa
  have A17 : ∀ i, A 17 i = if i = (n : Int) then b else zm S 17 i := fun i => by rw [← hA, qu_o _ _ _ _ _ (by decide), qu_row, qu_o _ _ _ _ _ (by decide)]
  have A16 : ∀ i, A 16 i = if i = (n : Int) then r else zm S 16 i := fun i => by rw [← hA, qu_o _ _ _ _ _ (by decide), qu_o _ _ _ _ _ (by decide), qu_row]
  have A15 : A 15 2 = ((n + 1 : Nat) : Int) := by rw [← hA, qu_s]; rfl
  have Ao : ∀ z, z ≠ 15 → z ≠ 16 → z ≠ 17 → A z = zm S z := fun z z1 z2 z3 => by rw [← hA, qu_o _ _ _ _ _ z1, qu_o _ _ _ _ _ z3, qu_o _ _ _ _ _ z2]
  have A5 : ∀ j, j ≠ 2 → A 15 j = zm S 15 j := fun j hj => by rw [← hA, qu_i _ _ _ _ _ hj, qu_o _ _ _ _ _ (by decide), qu_o _ _ _ _ _ (by decide)]
  have HA : qHB1 (qW S A) := qHB1_m (qHB1_0 hH.1) (qAg_w fun z j hz => by
    by_cases z1 : z = 15
    · subst z1
      exact A5 j fun q => hz (by unfold qEh; omega)
    · exact congrFun (Ao z z1 (fun q => hz (by unfold qEh; omega)) fun q => hz (by unfold qEh; omega)) j)
  have hPA : qP A := HA.1.1.2.1
  have cf := s_countFor2 e (qW S A) b (n + 1) (by omega) hK hPA A15 (by omega)
  obtain ⟨v, hv⟩ : ∃ v, qcv (A 17) b (n + 1) = v := ⟨_, rfl⟩
  rw [show qcv (zm (qW S A) 17) b (n + 1) = v from hv] at cf
  have x3 : A 3 = zm S 3 := Ao 3 (by decide) (by decide) (by decide)
  have x12 : A 3 12 = 15 := by rw [x3]; exact P_3_12 hP
  refine vOk_v (v := v) (S1 := qW S A) ?_ (by have := (qcv_r (A 17) b (n + 1)).1; omega)
  · simp (config := { maxSteps := 2000000 }) (disch := first | omega | (simp only [K_3 hK, K_15 hK, P_3_12 hP, x12, qb_in, qkW, qmW, qnW, true_and, and_true, or_self, true_or, or_true, and_self]; done) | (simp only [K_3 hK, K_15 hK, P_3_12 hP, x12, qb_in, qkW, qmW, qnW, true_and, and_true, or_self, true_or, or_true, and_self]; omega)) only [zD_144, b144_0, b144_5, b144_10, b144_13, b144_16, b144_27, b144_36, b144_40, b144_46, b144_49, b144_61, b144_72, b144_81, b144_89, qcall_l, qcall_r, qretn_l, qJ_s, qJ_n, qV0, qEx, ↓qif0, ↓zchk_pos, ↓reduceIte, qput, qWW, qmW, qkW, qnW, K_3 hK, K_15 hK, P_3_12 hP, ro, bo, su, Int.lt_irrefl, fi, hc, n80, if_pos c6, wa, x12, cf, Int.reduceEq]
theorem v_wish5 (d : Nat) (S : zS) (r b : Int) (h : 15 ≤ d) (hH : qHC S) : vOk (fun T => T = zbump S) (zD d 144 [vr 3, vi r, vi b] S) := by
  obtain ⟨⟨⟨⟨hK, hP, hL, hn⟩, ⟨hT, hC, hR, hk⟩, ⟨p1, p2, p3, p4, p5, p6⟩, hY⟩, hBB⟩, hYC, hFc⟩ := id hH
  have hKb : qK (zbump S) := hK
  by_cases c1 : 0 ≤ r ∧ r < zm S 37 76
  · obtain ⟨e, rfl, he⟩ := qd h
    have ro := s_readerOf_y e S r (by omega) hK hP p5.1 c1
    have kr := (p5.2.1 r c1.1 c1.2).1.1
    have r6 : 0 ≤ r ∧ r < 6 := ⟨c1.1, by have := p5.1.2; omega⟩
    have irb := r_isreader_y e (zbump S) r (by omega) hK p5.1.2 c1
    by_cases c2 : 0 ≤ b ∧ b < zm S 37 16
    · have bo := s_bookOf_y e S b (by omega) hK hP hY.1 c2
      have kb := (hY.2.1 b c2.1 c2.2).1.1
      have su := s_countUnknown e S r b (by omega) hH.1 c1 c2
      have ibb := r_isbook_y e (zbump S) b (by omega) hK hY.1.2 c2
      have fi := s_find e S r b (by omega) hK hP p3
      have hc := s_hasCopyOf e S r b (by omega) hK hP p4 (by omega)
      obtain ⟨n80, n80b, n80c⟩ := p3.1
      have n65 := p4.1.2
      have uu : 0 ≤ quk (zm S) r b := (qnk_r _ _ _).1
      -- the reference, refused
      obtain ⟨m2, r2, f2, H2, l50⟩ := r_unknownTo e (zbump S) r b (by omega) (qHB1_0 hH.1) r6 c2
      have r2 : zD e 292 [vr 37, vi r, vi b] (zbump S) = some (.inl (some (vi (quk (zm S) r b))), zbump (qW S m2)) := r2
      have hKb2 : qK (zbump (qW S m2)) := hK
      have l2 : ∀ x, (81 ≤ x ∧ x ≤ 94) → m2 x = zm S x := fun x hx => funext fun i => f2 x i (by unfold qfly; omega)
      have e80 : m2 37 80 = zm S 37 80 := f2 37 80 (by unfold qfly; omega)
      have e65 : m2 37 65 = zm S 37 65 := f2 37 65 (by unfold qfly; omega)
      have wo := r_wishOf e (zbump (qW S m2)) r b (by omega) hKb2 H2.1.1.2.1 (by show 0 ≤ m2 37 80 ∧ m2 37 80 ≤ 30; omega)
      have hl := r_held e (zbump (qW S m2)) r b (by omega) hKb2 H2.1.1.2.1 (by show 0 ≤ m2 37 65 ∧ m2 37 65 ≤ 20; omega)
      rw [show qwi (zm (zbump (qW S m2))) r b (zm (zbump (qW S m2)) 37 80).toNat = qwi (zm S) r b (zm S 37 80).toNat by show qwi m2 r b (m2 37 80).toNat = _; rw [e80]; exact qwi_e (l2 94 (by decide)) (l2 93 (by decide)) r b _] at wo
      rw [show qhl (zm (zbump (qW S m2))) r b (zm (zbump (qW S m2)) 37 65).toNat = qhl (zm S) r b (zm S 37 65).toNat by show qhl m2 r b (m2 37 65).toNat = _; rw [e65]; exact qhl_e (l2 86 (by decide)) (l2 82 (by decide)) r b _] at hl
      have hd : zD e 182 [vr 37, vi 2] (zbump (qW S m2)) = some (.inl (some (vi 0)), zbump (qW S (qu m2 37 0 2))) := r_holdn e (zbump S) m2 2 (by omega) hK (by decide)
      have b80 : zm (zbump (qW S m2)) 37 80 = zm S 37 80 := e80
      obtain ⟨u, hu⟩ : ∃ u, quk (zm S) r b = u := ⟨_, rfl⟩
      obtain ⟨w, hw⟩ : ∃ w, qwi (zm S) r b (zm S 37 80).toNat = w := ⟨_, rfl⟩
      obtain ⟨q, hq⟩ : ∃ q, qhl (zm S) r b (zm S 37 65).toNat = q := ⟨_, rfl⟩
      rw [hu] at su r2 uu
      rw [hw] at fi wo
      rw [hq] at hc hl
      by_cases c3 : u = 0
      · by_cases c4 : w = -1
        · by_cases c5 : q = 0
          · by_cases c6 : zm S 37 80 < 30
            · exact v_wish_y5 e S r b he hH c1 c2 (hu.trans c3) (hw.trans c4) (hq.trans c5) c6
            · refine vOk_x (x := 1) (S1 := zbump S) ?_ rfl
              · simp (config := { maxSteps := 2000000 }) (disch := first | omega | (simp only [K_3 hK, K_15 hK, P_3_12 hP, qb_in, qkW, qmW, qnW, true_and, and_true, or_self, true_or, or_true, and_self]; done) | (simp only [K_3 hK, K_15 hK, P_3_12 hP, qb_in, qkW, qmW, qnW, true_and, and_true, or_self, true_or, or_true, and_self]; omega)) only [zD_144, b144_0, b144_5, b144_10, b144_13, b144_16, b144_27, b144_36, b144_40, b144_46, b144_49, b144_61, b144_72, b144_81, b144_89, qcall_l, qcall_r, qretn_l, qJ_s, qJ_n, qV0, qEx, ↓qif0, ↓zchk_pos, ↓reduceIte, qput, qWW, qmW, qkW, qnW, K_3 hK, K_15 hK, P_3_12 hP, ro, bo, su, c3, Int.lt_irrefl, fi, c4, hc, c5, n80, if_neg c6, Int.reduceEq]
          · refine vOk_x (x := 1) (S1 := zbump S) ?_ rfl
            · simp (config := { maxSteps := 2000000 }) (disch := first | omega | (simp only [K_3 hK, K_15 hK, P_3_12 hP, qb_in, qkW, qmW, qnW, true_and, and_true, or_self, true_or, or_true, and_self]; done) | (simp only [K_3 hK, K_15 hK, P_3_12 hP, qb_in, qkW, qmW, qnW, true_and, and_true, or_self, true_or, or_true, and_self]; omega)) only [zD_144, b144_0, b144_5, b144_10, b144_13, b144_16, b144_27, b144_36, b144_40, b144_46, b144_49, b144_61, b144_72, b144_81, b144_89, qcall_l, qcall_r, qretn_l, qJ_s, qJ_n, qV0, qEx, ↓qif0, ↓zchk_pos, ↓reduceIte, qput, qWW, qmW, qkW, qnW, K_3 hK, K_15 hK, P_3_12 hP, ro, bo, su, c3, Int.lt_irrefl, fi, c4, hc, if_neg c5, Int.reduceEq]
        · refine vOk_x (x := 1) (S1 := zbump S) ?_ rfl
          · simp (config := { maxSteps := 2000000 }) (disch := first | omega | (simp only [K_3 hK, K_15 hK, P_3_12 hP, qb_in, qkW, qmW, qnW, true_and, and_true, or_self, true_or, or_true, and_self]; done) | (simp only [K_3 hK, K_15 hK, P_3_12 hP, qb_in, qkW, qmW, qnW, true_and, and_true, or_self, true_or, or_true, and_self]; omega)) only [zD_144, b144_0, b144_5, b144_10, b144_13, b144_16, b144_27, b144_36, b144_40, b144_46, b144_49, b144_61, b144_72, b144_81, b144_89, qcall_l, qcall_r, qretn_l, qJ_s, qJ_n, qV0, qEx, ↓qif0, ↓zchk_pos, ↓reduceIte, qput, qWW, qmW, qkW, qnW, K_3 hK, K_15 hK, P_3_12 hP, ro, bo, su, c3, Int.lt_irrefl, fi, if_neg c4]
      · refine vOk_x (x := 1) (S1 := zbump S) ?_ rfl
        · simp (config := { maxSteps := 2000000 }) (disch := first | omega | (simp only [K_3 hK, qb_in, qkW, qmW, qnW, true_and, and_true, or_self, true_or, or_true, and_self]; done) | (simp only [K_3 hK, qb_in, qkW, qmW, qnW, true_and, and_true, or_self, true_or, or_true, and_self]; omega)) only [zD_144, b144_0, b144_5, b144_10, b144_13, b144_16, b144_27, b144_36, b144_40, b144_46, b144_49, b144_61, b144_72, b144_81, b144_89, qcall_l, qcall_r, qretn_l, qJ_s, qJ_n, qV0, qEx, ↓qif0, ↓zchk_pos, ↓reduceIte, qput, qWW, qmW, qkW, qnW, K_3 hK, ro, bo, su, if_pos (show 0 < u by omega)]
    · refine vOk_x (x := 2) (S1 := zbump S) ?_ rfl
      · have bo := s_bookOf_n e S b (by omega) hK hY.1 c2
        simp (config := { maxSteps := 2000000 }) (disch := first | omega | (simp only [K_3 hK, kr, qb_in, qkW, qmW, qnW, true_and, and_true, or_self, true_or, or_true, and_self]; done) | (simp only [K_3 hK, kr, qb_in, qkW, qmW, qnW, true_and, and_true, or_self, true_or, or_true, and_self]; omega)) only [zD_144, b144_0, b144_5, b144_10, b144_13, b144_16, b144_27, b144_36, b144_40, b144_46, b144_49, b144_61, b144_72, b144_81, b144_89, qcall_l, qcall_r, qretn_l, qJ_s, qJ_n, qV0, qEx, ↓qif0, ↓zchk_pos, ↓reduceIte, qput, qWW, qmW, qkW, qnW, K_3 hK, ro, bo, kr]
  · exact vOk_n (q_wish_n d S r b (by omega) hK p5.1 c1) rfl
theorem v_pass5 (d : Nat) (S : zS) (n : Int) (h : 8 ≤ d) (hH : qHC S) : vOk (fun T => T = zbump S) (zD d 146 [vr 3, vi n] S) := by
  obtain ⟨e, rfl, he⟩ := qd h
  obtain ⟨⟨⟨⟨hK, hP, hL, hn⟩, -, ⟨p1, p2, p3, p4, p5, p6⟩, hY⟩, -⟩, -⟩ := id hH
  have hKb : qK (zbump S) := hK
  by_cases c1 : 1 ≤ n ∧ n ≤ 100
  · have zr : -2147483648 ≤ zm S 37 3 + n ∧ zm S 37 3 + n < 2147483648 := by have := p2.2; omega
    by_cases c2 : zm S 37 3 + n ≤ 1000
    · obtain ⟨N, rfl⟩ : ∃ N : Nat, n = (N : Int) := ⟨n.toNat, by omega⟩
      obtain ⟨hp0, hq0⟩ := qPC_0 hH
      obtain ⟨p, hp⟩ : ∃ p : qQ, (zm S 86, zm S 87, zm S 88, zm S 93, zm S 94, zm S 37 80, zm S 37 3) = p := ⟨_, rfl⟩
      have pd : p.2.2.2.2.2.2 = zm S 37 3 := by rw [← hp]
      have pr0 : ∀ m1 : Int → Int → Int, (∀ z, z = 86 ∨ z = 87 ∨ z = 88 ∨ z = 93 ∨ z = 94 → m1 z = zm S z) → m1 37 80 = zm S 37 80 → m1 37 3 = zm S 37 3 → qPR m1 m1 p := fun m1 g1 g2 g3 => by
        rw [← hp]
        exact ⟨⟨g1 86 (by omega), g1 87 (by omega), g1 88 (by omega)⟩, ⟨g1 93 (by omega), g1 94 (by omega)⟩, ⟨g2, g3⟩, fun _ _ _ => rfl⟩
      rw [hp] at hp0 hq0
      obtain ⟨mC, rC, qC⟩ := s_passOut e S p N (by omega) hH hq0 (by omega) (by rw [pd]; omega) N 0 (zm S) (by omega) hp0
      have rC : zF_146 e 49 [vr 3, vi (N : Int), vi 0, vi 0] [] S = some (.inl (some (vi (qds (zm S) p N).2)), qW S mC) := rC
      obtain ⟨kq, -, -, -⟩ := qds_k hq0 p4.1.2 N (by rw [pd]; omega)
      obtain ⟨v, hv⟩ : ∃ v, (qds (zm S) p N).2 = v := ⟨_, rfl⟩
      rw [hv] at rC
      have cf := qC.2.2.2.2
      have c1m : mC 1 = zm S 1 := funext fun j => cf 1 j (qPE_lo (by decide) (by omega) (by omega) (by decide))
      have c37 : mC 37 = zm S 37 := funext fun j => cf 37 j (qPE_lo (by decide) (by omega) (by omega) (by decide))
      have lo : ∀ z, z < 103 → z ≠ 3 → z ≠ 15 → z ≠ 16 → z ≠ 17 → mC z = zm S z := fun z g1 g2 g3 g4 g5 => funext fun j => cf z j (qPE_lo g1 (by omega) (by omega) ⟨g4, g5⟩)
      have hPC := qPC_P hH qC
      refine vOk_v (v := v) (S1 := qW S mC) ?_ (by have := (qds_k hq0 p4.1.2 N (by rw [pd]; omega)).2.1; omega)
      · simp (config := { maxSteps := 2000000 }) (disch := first | omega | (simp only [K_3 hK, qb_in, qkW, qmW, qnW, true_and, and_true, or_self, true_or, or_true, and_self]; done) | (simp only [K_3 hK, qb_in, qkW, qmW, qnW, true_and, and_true, or_self, true_or, or_true, and_self]; omega)) only [zD_146, b146_0, b146_5, b146_11, b146_22, b146_34, b146_45, b146_54, b146_69, b146_77, qcall_l, qcall_r, qretn_l, qJ_s, qJ_n, qV0, qEx, ↓qif0, ↓zchk_pos, ↓reduceIte, qput, qWW, qmW, qkW, qnW, K_3 hK, if_neg (show ¬ (N : Int) < 1 by omega), if_neg (show ¬ (100 : Int) < (N : Int) by omega), p2.1, q32 zr, if_neg (show ¬ (1000 : Int) < zm S 37 3 + N by omega), rC]
    · refine vOk_x (x := 1) (S1 := zbump S) ?_ rfl
      · simp (config := { maxSteps := 2000000 }) (disch := first | omega | (simp only [K_3 hK, qb_in, qkW, qmW, qnW, true_and, and_true, or_self, true_or, or_true, and_self]; done) | (simp only [K_3 hK, qb_in, qkW, qmW, qnW, true_and, and_true, or_self, true_or, or_true, and_self]; omega)) only [zD_146, b146_0, b146_5, b146_11, b146_22, b146_34, b146_45, b146_54, b146_69, b146_77, qcall_l, qcall_r, qretn_l, qJ_s, qJ_n, qV0, qEx, ↓qif0, ↓zchk_pos, ↓reduceIte, qput, qWW, qmW, qkW, qnW, K_3 hK, if_neg (show ¬ n < 1 by omega), if_neg (show ¬ 100 < n by omega), p2.1, q32 zr, if_pos (show 1000 < zm S 37 3 + n by omega)]
  · refine vOk_x (x := 0) (S1 := zbump S) ?_ rfl
    · by_cases c4 : n < 1
      · simp (config := { maxSteps := 2000000 }) (disch := first | omega | (simp only [qb_in, qkW, qmW, qnW, true_and, and_true, or_self, true_or, or_true, and_self]; done) | (simp only [qb_in, qkW, qmW, qnW, true_and, and_true, or_self, true_or, or_true, and_self]; omega)) only [zD_146, b146_0, b146_5, b146_11, b146_22, b146_34, b146_45, b146_54, b146_69, b146_77, qcall_l, qcall_r, qretn_l, qJ_s, qJ_n, qV0, qEx, ↓qif0, ↓zchk_pos, ↓reduceIte, qput, qWW, qmW, qkW, qnW, if_pos c4]
      · simp (config := { maxSteps := 2000000 }) (disch := first | omega | (simp only [qb_in, qkW, qmW, qnW, true_and, and_true, or_self, true_or, or_true, and_self]; done) | (simp only [qb_in, qkW, qmW, qnW, true_and, and_true, or_self, true_or, or_true, and_self]; omega)) only [zD_146, b146_0, b146_5, b146_11, b146_22, b146_34, b146_45, b146_54, b146_69, b146_77, qcall_l, qcall_r, qretn_l, qJ_s, qJ_n, qV0, qEx, ↓qif0, ↓zchk_pos, ↓reduceIte, qput, qWW, qmW, qkW, qnW, if_neg c4, if_pos (show 100 < n by omega)]
theorem v_give_y5 (e : Nat) (S : zS) (k hu h b x y w t P : Int) (he : 14 ≤ e) (hH : qHC S) (hk : 0 ≤ k ∧ k < zm S 37 65) (hq : qCq S k b x y w t P) (h86 : zm S 86 k = h) (h0 : 0 ≤ h ∧ h < zm S 37 76) (hhu : hu = -1 ∨ (0 ≤ hu ∧ hu < P)) : vOk (fun T => T = zbump S) (zD (e + 1) 148 [vr 3, vi k, vi hu] S) := by
  obtain ⟨⟨⟨⟨hK, hP, hL, hn⟩, -, ⟨p1, p2, p3, p4, p5, p6⟩, hY⟩, hBB⟩, hYC, hFc⟩ := id hH
  have hq0 := hq
  obtain ⟨⟨a1, a2, a3, a4, a5, a6⟩, ⟨b1, b2, b3, b4, b5, b6⟩, ⟨ky, ky1, ky2, y103, yn⟩, -⟩ := hq
  obtain ⟨g, hg⟩ : ∃ g, zm S 14 h = g := ⟨_, rfl⟩
  obtain ⟨v, hv⟩ : ∃ v, qlb (zm S) k = v := ⟨_, rfl⟩
  obtain ⟨C, rC, Cg, Cy, C4, C2, C1, Co⟩ := s_giveBack e S k hu h b x y g w t P v (by omega) hH hk hq0 h86 h0 hg hhu hv
  obtain ⟨⟨kg, kg1, g103, gn, g1⟩, -⟩ := p5.2.1 h h0.1 h0.2
  rw [hg] at kg kg1 g103 gn g1
  have n65 := p4.1.2
  have n76 := p5.1.2
  have nky := qknn ky
  have nky1 := qknn ky1
  have nky2 := qknn ky2
  have nkg := qknn kg
  have d87 := (p4.2.1 k hk.1 hk.2).2.2.2.2.2.2.2.2
  have lo : ∀ z, z < 103 → C z = zm S z := fun z hz => Co z (by omega) (by omega) (by omega) (by omega)
  exact vOk_v (S1 := qW S C) (rC) (by have := (qlb_r p4 p2 hk.1 hk.2).1; omega)
theorem v_giveBack5 (d : Nat) (S : zS) (k hu : Int) (h : 15 ≤ d) (hH : qHC S) : vOk (fun T => T = zbump S) (zD d 148 [vr 3, vi k, vi hu] S) := by
  obtain ⟨⟨⟨⟨hK, hP, hL, hn⟩, -, ⟨p1, p2, p3, p4, p5, p6⟩, hY⟩, hBB⟩, hYC, hFc⟩ := id hH
  by_cases c1 : 0 ≤ k ∧ k < zm S 37 65
  · obtain ⟨e, rfl, he⟩ := qd h
    obtain ⟨b, x, y, w, t, P, q⟩ := hYC.2.1 k c1.1 c1.2
    have q0 := q
    obtain ⟨⟨a1, a2, a3, a4, a5, a6⟩, ⟨b1, b2, b3, b4, b5, b6⟩, ⟨ky, ky1, ky2, y103, yn⟩, ⟨y2, y3, y4⟩, -⟩ := q
    have co := s_copyOf_y e S k (by omega) hK hP p4.1 c1
    obtain ⟨-, -, -, -, -, y6, -, -, dd⟩ := p4.2.1 k c1.1 c1.2
    rw [a3] at co y6
    have n65 := p4.1.2
    have k20 : k < 20 := by omega
    obtain ⟨m2, r2, f2, H2, h50⟩ := r_giveIs5 e (zbump S) k hu b P (by omega) (qHB1_0 hH.1) n65 c1 ⟨b1, b2⟩ a1 (by show zm S (zm S 8 b) 9 = P; rw [a2, a6]) ⟨by omega, b5⟩
    have r2 : zD (e + 1) 303 [vr 37, vi k, vi hu] (zbump S) = zF_303 e 38 [vr 37, vi k, vi hu, vu, vu] [vi (if hu = -1 ∨ (0 ≤ hu ∧ hu < P) then 1 else 0)] (zbump (qW S m2)) := r2
    have hKb2 : qK (zbump (qW S m2)) := hK
    by_cases c2 : hu = -1 ∨ (0 ≤ hu ∧ hu < P)
    · by_cases c3 : zm S 86 k = -1
      · rw [if_pos c2] at r2
        have hd : zD e 182 [vr 37, vi 2] (zbump (qW S m2)) = some (.inl (some (vi 0)), zbump (qW S (qu m2 37 0 2))) := r_holdn e (zbump S) m2 2 (by omega) hK (by decide)
        refine vOk_x (x := 1) (S1 := zbump S) ?_ rfl
        · have nlt : ¬ hu < -1 := by omega
          have huP : hu < P := by omega
          have y6 : zm S y 6 = -1 := y6.trans c3
          simp (config := { maxSteps := 2000000 }) (disch := first | omega | (simp only [K_3 hK, ky, y3, ky2, qb_in, qkW, qmW, qnW, true_and, and_true, or_self, true_or, or_true, and_self]; done) | (simp only [K_3 hK, ky, y3, ky2, qb_in, qkW, qmW, qnW, true_and, and_true, or_self, true_or, or_true, and_self]; omega)) only [zD_148, b148_0, b148_5, b148_11, b148_20, b148_31, b148_39, b148_50, b148_58, b148_68, b148_88, b148_97, b148_102, b148_107, qcall_l, qcall_r, qretn_l, qJ_s, qJ_n, qV0, qEx, ↓qif0, ↓zchk_pos, ↓reduceIte, qput, qWW, qmW, qkW, qnW, K_3 hK, co, if_neg nlt, ky, y3, ky2, if_pos huP, y6, Int.reduceEq]
      · obtain ⟨d1, -⟩ := dd.resolve_left fun q => c3 q.1
        exact v_give_y5 e S k hu _ b x y w t P he hH c1 q0 rfl d1 c2
    · rw [if_neg c2] at r2
      have hd : zD e 182 [vr 37, vi 1] (zbump (qW S m2)) = some (.inl (some (vi 0)), zbump (qW S (qu m2 37 0 1))) := r_holdn e (zbump S) m2 1 (by omega) hK (by decide)
      refine vOk_x (x := 2) (S1 := zbump S) ?_ rfl
      · by_cases c4 : hu < -1
        · simp (config := { maxSteps := 2000000 }) (disch := first | omega | (simp only [K_3 hK, qb_in, qkW, qmW, qnW, true_and, and_true, or_self, true_or, or_true, and_self]; done) | (simp only [K_3 hK, qb_in, qkW, qmW, qnW, true_and, and_true, or_self, true_or, or_true, and_self]; omega)) only [zD_148, b148_0, b148_5, b148_11, b148_20, b148_31, b148_39, b148_50, b148_58, b148_68, b148_88, b148_97, b148_102, b148_107, qcall_l, qcall_r, qretn_l, qJ_s, qJ_n, qV0, qEx, ↓qif0, ↓zchk_pos, ↓reduceIte, qput, qWW, qmW, qkW, qnW, K_3 hK, co, if_pos c4]
        · simp (config := { maxSteps := 2000000 }) (disch := first | omega | (simp only [K_3 hK, ky, y3, ky2, qb_in, qkW, qmW, qnW, true_and, and_true, or_self, true_or, or_true, and_self]; done) | (simp only [K_3 hK, ky, y3, ky2, qb_in, qkW, qmW, qnW, true_and, and_true, or_self, true_or, or_true, and_self]; omega)) only [zD_148, b148_0, b148_5, b148_11, b148_20, b148_31, b148_39, b148_50, b148_58, b148_68, b148_88, b148_97, b148_102, b148_107, qcall_l, qcall_r, qretn_l, qJ_s, qJ_n, qV0, qEx, ↓qif0, ↓zchk_pos, ↓reduceIte, qput, qWW, qmW, qkW, qnW, K_3 hK, co, if_neg c4, ky, y3, ky2, if_neg (show ¬ hu < P by omega)]
  · exact vOk_n (q_giveBack_n d S k hu (by omega) hK p4.1 c1) rfl
theorem v_divisH (d : Nat) (S : zS) (h : 9 ≤ d) (hK : qK S) (hP : qP (zm S)) (hT : qRT S) (hC : qRC S) (hR : qRD S) (hB : qBh S) (hn : 103 ≤ (zn S : Int)) : vOk (fun _ => True) (zD d 120 [vr 3] S) := by
  obtain ⟨e, rfl, he⟩ := qd h
  have hn2 : 0 ≤ zm S 37 2 := hT.2.1.1
  by_cases c : qdok (zm S 38) (zm S 37 2)
  · obtain ⟨T, r, n1, z1, w1, k1, lo, ⟨v0, v1, v2, v3⟩, v4, v5⟩ := s_divMade e S (zn S) (zm S 37 2) (zm S 38) (by omega) hK hP hT rfl hn rfl rfl c
    generalize hN : (zn S : Int) = N at *
    have lk : ∀ x, x < N → zk T x = zk S x := fun x hx => by rw [k1, if_neg (by omega), if_neg (by omega), if_neg (by omega)]
    obtain ⟨g, hKT, hPT, hTT, hCT, hRT, hBT⟩ := qgrown hN hn (by omega) lk lo hK hP hT hC hR hB
    have kN : zk T N = (25, 0) := by rw [k1, if_neg (by omega), if_neg (by omega), if_pos rfl]
    have kL : zk T (N + 1) = (0, 10) := by rw [k1, if_neg (by omega), if_pos rfl]
    have kE : zk T (N + 2) = (0, 4) := by rw [k1, if_pos rfl]
    have s37 : zm T 37 = zm S 37 := lo 37 (by omega)
    have s38 : zm T 38 = zm S 38 := lo 38 (by omega)
    generalize hnn : zm S 37 2 = n at *
    generalize htt : zm S 38 = t at *
    have dv := qdv t n hn2 c
    have hcw := c.1
    generalize hW : qdW t n.toNat = W at *
    have hWL : (W.length : Int) = qdvl t n.toNat := by rw [← hW]; exact qdW_l t n.toNat
    have hl10 : qdvl t n.toNat ≤ 10 := c.2.2
    have hA : qA (zm T) (N + 1) W := qA_f fun i i1 i2 => by rw [v4 i i1 (by omega), ← hW, qdW_n t n.toNat i ⟨i1, by omega⟩]
    have hW10 : 0 < W.length ∧ W.length ≤ 10 := by have := dv.2.2.2.2; omega
    by_cases b : zm T 37 12 = 12 ∨ ¬ qPw (zm T) W 0 = 0 ∨ qhwf (zm T) (-1) (zm T 37 16).toNat = 1
    · have cl := s_divBad e T N (qdvl t n.toNat) W (by omega) hKT hPT hRT hBT kN kL v0 v1 hA hW10 hWL b
      obtain ⟨m2, r2, f0, f1, f2⟩ := r_divBad e (zbump T) 2 n t (by omega) hKT hPT (qRT_r hTT) hRT.2.1 hBT.2.1 (by show zm T 37 2 = n; rw [s37]; exact hnn) s38 (Or.inr ⟨c, by rw [hW]; exact b, rfl⟩)
      exact vOk_x (x := 1) (S1 := zbump T) (by rw [r]; exact cl) trivial
    · have b1 : zm T 37 12 ≠ 12 := fun z => b (Or.inl z)
      have b2 : qPw (zm T) W 0 = 0 := Classical.byContradiction fun z => b (Or.inr (Or.inl z))
      have b3 : qhwf (zm T) (-1) (zm T 37 16).toNat = 0 := (qhwf_r _ _ _).resolve_right fun z => b (Or.inr (Or.inr z))
      have hK12 := hRT.2.1
      obtain ⟨K, hKK⟩ : ∃ K, zm T 37 12 = K := ⟨_, rfl⟩
      rw [hKK] at b1 hK12
      have cl := s_divGood e T N (qdvl t n.toNat) K W (by omega) hKT hPT hRT hBT hn kN kL v0 v1 hA hW10 hWL hKK (by omega) b2 b3
      obtain ⟨M, hM⟩ : ∃ M, qu (qu (qu (zm T) 7 K N) 3 4 (K + 1)) 4 1 0 = M := ⟨_, rfl⟩
      rw [hM] at cl
      exact vOk_v (S1 := qW T M) (by rw [r]; exact cl) (by have := dv.2.2.2.2; omega)
  · have cl : zD (e + 1) 120 [vr 3] S = some (.inr 0, zbump S) := by
      have isd := (s_isDivision e S _ _ (by omega) hK hP hT rfl rfl).2 c
      simp (config := { maxSteps := 2000000 }) (disch := first | omega | (simp only [K_3 hK, K_4 hK, P_3_0 hP, P_3_0 hP, qb_in, qkW, qmW, qnW, true_and, and_true, or_self, true_or, or_true, and_self]; done) | (simp only [K_3 hK, K_4 hK, P_3_0 hP, P_3_0 hP, qb_in, qkW, qmW, qnW, true_and, and_true, or_self, true_or, or_true, and_self]; omega)) only [zD_120, b120_0, b120_7, b120_10, b120_20, b120_27, b120_36, b120_45, b120_57, b120_60, b120_64, b120_67, b120_77, b120_93, qcall_l, qcall_r, qretn_l, qJ_s, qJ_n, qV0, qEx, ↓qif0, ↓zchk_pos, ↓reduceIte, qput, qWW, qmW, qkW, qnW, K_3 hK, K_4 hK, P_3_0 hP, P_3_0 hP, isd, Int.reduceEq]
    obtain ⟨m2, r2, f0, f1, f2⟩ := r_divBad e (zbump S) 1 (zm S 37 2) (zm S 38) (by omega) hK hP (qRT_r hT) hR.2.1 hB.2.1 rfl rfl (Or.inl ⟨c, rfl⟩)
    exact vOk_x (x := 0) (S1 := zbump S) (cl) trivial
theorem v_contrH (d : Nat) (S : zS) (c g p f s : Int) (h : 8 ≤ d) (hK : qK S) (hP : qP (zm S)) (hT : qRT S) (hC : qRC S) (hB : qBh S) (hn : 103 ≤ (zn S : Int))  : vOk (fun T => T = zbump S) (zD d 119 [vr 3, vi c, vi g, vi p, vi f, vi s] S) := by
  by_cases hb : (0 ≤ c ∧ c < zm S 37 4) ∧ (qcok0 (zm S 37 2) g p f s ∧ qslt (zm S 38) (zm S 37 2)) ∧ ¬ zm S 39 c = 24 ∧ qhwf (zm S) c (zm S 37 16).toNat = 0
  · obtain ⟨h1, h2, h3, h4⟩ := hb
    obtain ⟨e, rfl, he⟩ := qd h
    have cN := ((qRC_1 hC h1.1 h1.2).2.1.2.2.2.1)
    obtain ⟨S1, r1, -⟩ := s_contrGood e S c g p f s (zm S 37 2) (zm S 39 c) (zn S) (zm S 6 c) (zm S 38) (by omega) hK hP hT hC hB rfl hn rfl rfl h1 h2 rfl (by omega) h4 rfl
    exact vOk_v r1 (by omega)
  · obtain ⟨x, hx0, r1, r2⟩ := q_contrBad d S c g p f s (by omega) hK hP hT hC hB hb
    exact vOk_x r1 rfl
