/-! The text on the tape is added to a book: both answer alike. -/
theorem r_wordsR (d : Nat) (S : zS) (h : 6 ≤ d) (hK : qK S) (hP : qP (zm S)) (hn : 0 ≤ zm S 37 2 ∧ zm S 37 2 ≤ 60) (hr : ∀ i, 0 ≤ i → i < zm S 37 2 → 0 ≤ zm S 38 i ∧ zm S 38 i < 65536) : zD d 204 [vr 37] S = some (.inl (some (vi (if qtf (zm S 38) (zm S 37 2) = -1 then qcw (zm S 38) (zm S 37 2).toNat else 0))), S) := by
  obtain ⟨e, rfl, h1⟩ := qd h
  have hT : qTr (zm S) := ⟨hn.1, hn.2, hr⟩
  have fo : zD e 202 [vr 37] S = some (.inl (some (vi (qtf (zm S 38) (zm S 37 2)))), S) := by
    rw [← qff_tf _ _ hn.1]
    exact r_faultOf e S (by omega) hK hP hT
  have lp : ∀ (f i : Nat), (i : Int) + f = zm S 37 2 → zF_204 e 4 [vr 37, vi (qcw (zm S 38) i), vi i] [] S = some (.inl (some (vi (if qtf (zm S 38) (zm S 37 2) = -1 then qcw (zm S 38) (zm S 37 2).toNat else 0))), S) := by
    intro f
    induction f with
    | zero =>
      intro i h2
      rw [b204_4, show (zm S 37 2).toNat = i by omega]
      by_cases c : qtf (zm S 38) (zm S 37 2) = -1
      · rw [if_pos c]
        simp (config := { maxSteps := 2000000 }) (disch := first | omega | (simp only [K_37 hK, qb_in, qkW, qmW, qnW, true_and, and_true, or_self, true_or, or_true, and_self]; done) | (simp only [K_37 hK, qb_in, qkW, qmW, qnW, true_and, and_true, or_self, true_or, or_true, and_self]; omega)) only [b204_0, b204_12, b204_18, b204_21, b204_24, b204_28, b204_29, b204_37, b204_41, b204_45, b204_49, b204_50, qcall_l, qcall_r, qretn_l, qJ_s, qJ_n, qV0, qEx, ↓qif0, ↓zchk_pos, ↓reduceIte, qput, qWW, qmW, qkW, qnW, K_37 hK, if_neg (show ¬ (i : Int) < zm S 37 2 by omega), fo, if_pos c]
      · rw [if_neg c]
        simp (config := { maxSteps := 2000000 }) (disch := first | omega | (simp only [K_37 hK, qb_in, qkW, qmW, qnW, true_and, and_true, or_self, true_or, or_true, and_self]; done) | (simp only [K_37 hK, qb_in, qkW, qmW, qnW, true_and, and_true, or_self, true_or, or_true, and_self]; omega)) only [b204_0, b204_12, b204_18, b204_21, b204_24, b204_28, b204_29, b204_37, b204_41, b204_45, b204_49, b204_50, qcall_l, qcall_r, qretn_l, qJ_s, qJ_n, qV0, qEx, ↓qif0, ↓zchk_pos, ↓reduceIte, qput, qWW, qmW, qkW, qnW, K_37 hK, if_neg (show ¬ (i : Int) < zm S 37 2 by omega), fo, if_neg c]
    | succ f ih =>
      intro i h2
      have hr := qcw_r (zm S 38) i
      have sg := r_signAt e S i (by omega) (by omega) hK hP hT
      rw [show qms (zm S) i = zm S 38 i from qsg_lt (by omega)] at sg
      have ip := r_isPart e (zm S 38 i) S (by omega)
      have ih := ih (i + 1) (by omega)
      rw [qcw] at ih
      rw [b204_4]
      by_cases c : qpt (zm S 38 i)
      · rw [if_pos c] at ih
        simp (config := { maxSteps := 2000000 }) (disch := first | omega | (simp only [K_37 hK, qb_in, qkW, qmW, qnW, true_and, and_true, or_self, true_or, or_true, and_self]; done) | (simp only [K_37 hK, qb_in, qkW, qmW, qnW, true_and, and_true, or_self, true_or, or_true, and_self]; omega)) only [b204_0, b204_12, b204_18, b204_21, b204_24, b204_28, b204_29, b204_37, b204_41, b204_45, b204_49, b204_50, qcall_l, qcall_r, qretn_l, qJ_s, qJ_n, qV0, qEx, ↓qif0, ↓zchk_pos, ↓reduceIte, qput, qWW, qmW, qkW, qnW, K_37 hK, if_pos (show (i : Int) < zm S 37 2 by omega), sg, ip, if_pos c, q32]
        exact ih
      · rw [if_neg c, Int.add_zero] at ih
        simp (config := { maxSteps := 2000000 }) (disch := first | omega | (simp only [K_37 hK, qb_in, qkW, qmW, qnW, true_and, and_true, or_self, true_or, or_true, and_self]; done) | (simp only [K_37 hK, qb_in, qkW, qmW, qnW, true_and, and_true, or_self, true_or, or_true, and_self]; omega)) only [b204_0, b204_12, b204_18, b204_21, b204_24, b204_28, b204_29, b204_37, b204_41, b204_45, b204_49, b204_50, qcall_l, qcall_r, qretn_l, qJ_s, qJ_n, qV0, qEx, ↓qif0, ↓zchk_pos, ↓reduceIte, qput, qWW, qmW, qkW, qnW, K_37 hK, if_pos (show (i : Int) < zm S 37 2 by omega), sg, ip, if_neg c, Int.add_zero, q32]
        exact ih
  simp (config := { maxSteps := 2000000 }) (disch := first | omega | (simp only [qb_in, qkW, qmW, qnW, true_and, and_true, or_self, true_or, or_true, and_self]; done) | (simp only [qb_in, qkW, qmW, qnW, true_and, and_true, or_self, true_or, or_true, and_self]; omega)) only [zD_204, b204_0, b204_12, b204_18, b204_21, b204_24, b204_28, b204_29, b204_37, b204_41, b204_45, b204_49, b204_50, qcall_l, qcall_r, qretn_l, qJ_s, qJ_n, qV0, qEx, ↓qif0, ↓zchk_pos, ↓reduceIte, qput, qWW, qmW, qkW, qnW]
  exact lp (zm S 37 2).toNat 0 (by omega)
theorem q_add_l {S : zS} {C : Int → Int → Int} {x a : Int} (hn : (103 : Int) ≤ zn S) (x103 : 103 ≤ x) (a103 : 103 ≤ a) (Am : ∀ z : Int, z < zn S → z ≠ x → z ≠ x + 1 → z ≠ x + 2 → z ≠ a + 3 → z ≠ a + 4 → C z = zm S z) : ∀ z, z < 103 → C z = zm S z := fun z hz => Am z (by omega) (by omega) (by omega) (by omega) (by omega) (by omega)
theorem q_add_m {S : zS} {C M : Int → Int → Int} (Mo : ∀ z, z ≠ 4 → z ≠ 102 → M z = C z) (Cl : ∀ z, z < 103 → C z = zm S z) : ∀ z, z < 102 → z ≠ 4 → M z = zm S z := fun z h1 h2 => by rw [Mo z h2 (by omega), Cl z (by omega)]
theorem q_add_P {S : zS} {C M : Int → Int → Int} {v : Int} (hP : qP (zm S)) (hM : qu (qu C 4 1 0) 102 0 v = M) (Cl : ∀ z, z < 103 → C z = zm S z) (Ml : ∀ z, z < 102 → z ≠ 4 → M z = zm S z) : qP M := hP.same fun q hq => by
  have n := qPt_n q hq
  by_cases c : q.1 = 4
  · rw [c, ← hM, qu_o _ _ _ _ _ (by decide), qu_i _ _ _ _ _ (by omega), Cl 4 (by decide)]
  · rw [Ml q.1 (by omega) c]
theorem q_add_z {S Z : zS} {n : Nat} (h : zc Z = zc S + 6 * n) (hn : 2 * (n : Int) ≤ 61) : zc Z ≤ zc S + 500 := by omega
theorem q_add_w {S Z : zS} {n : Nat} {u v : Int} (h : zw Z = zw S + 49 * n) (hn : 2 * (n : Int) ≤ 61) : ((zw Z : Nat) : Int) ≤ zw S + 2000 + 15000 * ((u + v) - (u + v)) := by omega
theorem q_add_1 (j z : Int) (h : z = 1 ∨ z = 102) : ¬ (z = 64 ∨ (z = 37 ∧ (j = 32 ∨ j = 33 ∨ j = 34 ∨ j = 36 ∨ j = 37 ∨ j = 38)) ∨ (54 ≤ z ∧ z ≤ 61)) := by omega
theorem q_add_37 {mF mR M0 : Int → Int → Int} (Fi : ∀ j, j ≠ 2 → mF 37 j = mR 37 j) (R1 : ∀ z j, ¬ (z = 64 ∨ (z = 37 ∧ (j = 32 ∨ j = 33 ∨ j = 34 ∨ j = 36 ∨ j = 37 ∨ j = 38)) ∨ (54 ≤ z ∧ z ≤ 61)) → mR z j = M0 z j) {j : Int} (h : j = 0 ∨ j = 16 ∨ j = 50 ∨ j = 65) : mF 37 j = M0 37 j := by rw [Fi j (by omega), R1 37 j (by omega)]
section
variable {S : zS} {b x c a g w t Nc : Int} {T : Int → Int → Int} {J0 n : Nat} {t0 : Int → Int} {N : Int} {fp : Nat → Int} {fW : Nat → List Int} {fd fs fb fm : Nat → Int} {pp : Nat → Nat} {gL gE : Nat → List Int} {gA gU gM : Nat → Int}
/-- the class adds -/
theorem q_add_c (e : Nat) (he : 13 ≤ e) (hH : qHC S) (H : qAdH S b x c a g w t Nc T J0 n t0 N fp fW fd fs fb fm pp gL gE gA gU gM) (hf : qtf t0 N = -1) (hn : qcw t0 N.toNat = (n : Int)) (h13 : zm S x 13 = 0) {P0 l0 : Int} (old : qCB (zm S) x w t (qZn w t gL gE gA J0) P0 l0) :
    ∃ Z C, zD (e + 1) 132 [vr 3, vi b] S = some (.inl (some (vi ((J0 : Int) + n))), qW Z (qu C 4 1 0)) ∧ qAdC S Z C x a w t J0 n fW fd fs fb fm gL gE gA gU gM := by
  have H0 := H
  obtain ⟨⟨hb, hx, h49, h6, -⟩, ⟨h54, hJ⟩, ⟨h38, h2⟩, ⟨-, fp0⟩, -⟩ := H
  obtain ⟨⟨⟨⟨hK, hP, hL, hn0⟩, ⟨hRT, hC, hR, hk⟩, -, hY⟩, -⟩, -⟩ := id hH
  obtain ⟨⟨kx, kx1, kx2, x103, xn⟩, ⟨-, x1a, c1, c2⟩, -, -, -, -, -, ⟨x7J, -⟩, -⟩ := hY.2.1 b hb.1 hb.2
  rw [hx] at kx x7J
  rw [h49] at c1 c2
  obtain ⟨cb, -⟩ := qRC_1 hC c1 c2
  rw [h6] at cb
  have bo := s_bookOf_y e S b (by omega) hK hP hY.1 hb
  rw [hx] at bo
  have fa := s_faultAsText' e S (by omega) hK hP hRT
  have cw := s_countWords e S (zm S 37 2) (by omega) hK (P_4_0 hP) hRT.1 hRT.2.1
  rw [qcw_e hRT.2.2.1 hRT.2.1.1] at cw
  rw [h38, h2] at fa cw
  rw [hn] at cw
  obtain ⟨Z, C, rl, A⟩ := s_addLoop e (by omega) hH H0 n 0 S (zm S) 47 0 vu vu (by omega) (fun _ => ⟨rfl, fp0.symm⟩)
    ⟨⟨by omega, rfl, rfl⟩, fun _ _ => rfl, fun _ _ _ _ _ _ _ => rfl, cb.2.2.2.2.2.2.2.2.1, ⟨fun _ _ _ _ _ _ _ _ => rfl, by rw [x7J, h54]; show (J0 : Int) = J0 + 0; omega⟩, fun j => by rw [if_neg (by omega)], fun k hk => by omega, ⟨P0, l0, old⟩⟩
  rw [qWS] at rl
  have rl : zF_132 e 81 [vr 3, vu, vr x, vi (n : Int), vi 47, vi 0, vi 0, vu] [] S = some (.inl (some (vi ((J0 : Int) + n))), qW Z (qu C 4 1 0)) := rl
  refine ⟨Z, C, ?_, A⟩
  have x7J : zm S x 7 = (J0 : Int) := by rw [x7J, h54]
  obtain ⟨J, hJe⟩ : ∃ J, (J0 : Int) = J := ⟨_, rfl⟩
  obtain ⟨v, hv⟩ : ∃ v, (n : Int) = v := ⟨_, rfl⟩
  have jv : J + v ≤ 80 ∧ 0 ≤ J ∧ 0 ≤ v := by omega
  rw [hJe] at rl x7J ⊢
  rw [hv] at rl cw ⊢
  have zn80 : z32 (J + v) = J + v := q32 (by omega)
  have nv : ¬ 80 < J + v := by omega
  have p30 := P_3_0 hP
  have t3 := K_3 hK
  have t4 := K_4 hK
  have nlt : ¬ (0 : Int) < 0 := by decide
  clear A old cb hb hx h49 h6 h54 hJ h38 h2 fp0 hP hL hn0 hRT hC hR hk hY kx1 kx2 x103 xn x1a c1 c2 H0 hH hK hn
  simp (config := { maxSteps := 2000000 }) (disch := first | (simp only [t3, t4, p30, kx, qb_in, qkW, qmW, qnW, true_and, and_true, or_self, true_or, or_true, and_self]; done) | omega | (simp only [t3, t4, p30, kx, qb_in, qkW, qmW, qnW, true_and, and_true, or_self, true_or, or_true, and_self]; omega)) only [zD_132, b132_0, b132_5, b132_13, b132_17, b132_28, b132_39, b132_45, b132_52, b132_63, b132_70, b132_87, b132_94, b132_110, b132_124, b132_129, b132_141, b132_154, b132_156, b132_167, qcall_l, qcall_r, qretn_l, qJ_s, qJ_n, qV0, qEx, ↓qif0, ↓zchk_pos, ↓reduceIte, qput, qWW, qmW, qkW, qnW, t3, t4, p30, bo, fa, hf, kx, cw, x7J, zn80, if_neg nv, h13, if_neg nlt, rl]
/-- the reference adds -/
theorem q_add_r (e : Nat) (he : 13 ≤ e) (hH : qHC S) (H : qAdH S b x c a g w t Nc T J0 n t0 N fp fW fd fs fb fm pp gL gE gA gU gM) (hf : qtf t0 N = -1) (hn : qcw t0 N.toNat = (n : Int)) (n1 : 0 < n) (h13 : zm S x 13 = 0) (Z : zS) (M : Int → Int → Int) (hKZ : qK Z) (hPM : qP M) (Ml : ∀ z, z < 102 → z ≠ 4 → M z = zm S z) :
    ∃ mR, zD (e + 1) 255 [vr 37, vi b] (qW Z M) = some (.inl (some (vi ((J0 : Int) + n))), qW Z (qu mR 37 2 0)) ∧ qAdR (qu M 37 0 0) mR b J0 n t0 fp fW fd fs fb fm := by
  have H0 := H
  obtain ⟨⟨hb, hx, h49, h6, -⟩, ⟨h54, hJ⟩, ⟨h38, h2⟩, ⟨-, fp0⟩, -⟩ := H
  obtain ⟨⟨⟨⟨hK, hP, hL, hn0⟩, ⟨hRT, hC, hR, hk⟩, ⟨-, -, -, p4, -, -⟩, hY⟩, -⟩, hYC, -⟩ := id hH
  have b4 : b < 4 := by have := hY.1.2; omega
  have M37 : M 37 = zm S 37 := Ml 37 (by decide) (by decide)
  have M38 : M 38 = zm S 38 := Ml 38 (by decide) (by decide)
  have wt : zD e 204 [vr 37] (qW Z M) = some (.inl (some (vi (n : Int))), qW Z M) := by
    have := r_wordsR e (qW Z M) (by omega) hKZ hPM (by show 0 ≤ M 37 2 ∧ M 37 2 ≤ 60; rw [M37]; exact hRT.2.1) (by
      intro i i1 i2
      show 0 ≤ M 38 i ∧ M 38 i < 65536
      have i2 : i < M 37 2 := i2
      rw [M37] at i2
      rw [M38]
      exact hRT.2.2.2 i i1 i2)
    rw [show zm (qW Z M) 38 = t0 by show M 38 = t0; rw [M38, h38], show zm (qW Z M) 37 2 = N by show M 37 2 = N; rw [M37, h2], if_pos hf, hn] at this
    exact this
  have ib := r_isbook_y e (qW Z M) b (by omega) hKZ (by show 0 ≤ M 37 16 ∧ M 37 16 ≤ 4; rw [M37]; exact hY.1.2) (by show 0 ≤ b ∧ b < M 37 16; rw [M37]; exact hb)
  have p22 : M 37 22 = 54 := P_37_22 hPM
  have m54 : M 54 b = (J0 : Int) := by rw [Ml 54 (by decide) (by decide), h54]
  have cp := r_copiesOf e (qW Z M) b (by omega) hKZ hPM (by show 0 ≤ M 37 65 ∧ M 37 65 ≤ 20; rw [M37]; exact p4.1.2)
  rw [show qbn (zm (qW Z M)) b (zm (qW Z M) 37 65).toNat = 0 by
    show qbn M b (M 37 65).toNat = 0
    rw [M37, qbn_e (Ml 82 (by decide) (by decide)), ← hYC.1 b hb.1 hb.2, hx, h13]] at cp
  have hd := r_hold0 e Z M (by omega) hKZ
  have hP0 : qP (qu M 37 0 0) := qP_fr hPM (qfr_j (A := []) (J := [0]) M 0 0 (by decide)) (by decide)
  have M0i : ∀ j, j ≠ 0 → qu M 37 0 0 37 j = zm S 37 j := fun j hj => by rw [qu_i _ _ _ _ _ hj, M37]
  have M0o : ∀ z, z ≠ 37 → qu M 37 0 0 z = M z := fun z hz => qu_o _ _ _ _ _ hz
  obtain ⟨M0, hM0⟩ : ∃ M0, qu M 37 0 0 = M0 := ⟨_, rfl⟩
  rw [hM0] at hd hP0 M0i M0o ⊢
  obtain ⟨mR, rr, R⟩ := r_addLoop e Z M0 (by omega) hH H0 hKZ hP0 (by rw [M0i 2 (by decide), h2]) (by rw [M0o 38 (by decide), M38, h38]) (by rw [M0i 12 (by decide)]; exact hR.2.1) b4 n 0 M0 0 1 vu vu vu vu (by omega) (fun _ => ⟨fp0.symm, rfl⟩)
    ⟨fun _ _ _ => rfl, ⟨by rw [M0o 54 (by decide), m54]; show (J0 : Int) = J0 + 0; omega, fun _ _ => rfl⟩, fun _ _ _ _ => rfl, fun _ _ => rfl, fun k hk => by omega⟩
  have rr : zF_255 e 71 [vr 37, vi b, vi (n : Int), vu, vi 0, vi 1, vi 0, vu, vu, vu] [] (qW Z M0) = some (.inl (some (vi ((J0 : Int) + n))), qW Z (qu mR 37 2 0)) := rr
  refine ⟨mR, ?_, R⟩
  obtain ⟨mF, hmF⟩ : ∃ mF, qu mR 37 2 0 = mF := ⟨_, rfl⟩
  rw [hmF] at rr ⊢
  obtain ⟨J, hJe⟩ : ∃ J, (J0 : Int) = J := ⟨_, rfl⟩
  obtain ⟨v, hv⟩ : ∃ v, (n : Int) = v := ⟨_, rfl⟩
  have jv : J + v ≤ 80 ∧ 0 ≤ J ∧ 0 < v := by omega
  rw [hJe] at rr m54 ⊢
  rw [hv] at rr wt ⊢
  have zn80 : z32 (J + v) = J + v := q32 (by omega)
  have nv : ¬ 80 < J + v := by omega
  have nn : ¬ v = 0 := by omega
  have t37 := K_37 hKZ
  have t54 := K_54 hKZ
  have b0 := hb.1
  have nlt : ¬ (0 : Int) < 0 := by decide
  clear R hb hx h49 h6 h54 hJ h38 h2 fp0 hP hL hn0 hRT hC hR hk hY H0 hH hK hn Ml M37 M38 hP0 M0i M0o hPM hYC p4 hKZ jv
  simp (config := { maxSteps := 2000000 }) (disch := first | (simp only [t37, t54, p22, b0, b4, qb_in, qkW, qmW, qnW, true_and, and_true, or_self, true_or, or_true, and_self]; done) | omega | (simp only [t37, t54, p22, b0, b4, qb_in, qkW, qmW, qnW, true_and, and_true, or_self, true_or, or_true, and_self]; omega)) only [zD_255, b255_0, b255_4, b255_10, b255_16, b255_20, b255_24, b255_28, b255_41, b255_46, b255_49, b255_53, b255_54, b255_57, b255_60, b255_62, b255_77, b255_83, b255_98, b255_116, b255_135, b255_153, b255_174, b255_192, b255_200, b255_213, b255_216, b255_221, b255_225, b255_231, b255_236, b255_240, b255_241, b255_255, qcall_l, qcall_r, qretn_l, qJ_s, qJ_n, qV0, qEx, ↓qif0, ↓zchk_pos, ↓reduceIte, qput, qWW, qmW, qkW, qnW, t37, t54, wt, ib, if_neg nn, p22, m54, zn80, if_neg nv, cp, if_neg nlt, Int.lt_irrefl, hd, rr, Int.reduceEq]
/-- what both have left is a house -/
theorem q_add_h {Z : zS} {C M mR : Int → Int → Int} {v P0 l0 : Int} {fL fE : Nat → List Int} {fA fU fM : Nat → Int} (hH : qHC S) (H : qAdH S b x c a g w t Nc T J0 n t0 N fp fW fd fs fb fm pp gL gE gA gU gM) (n1 : 0 < n) (h13 : zm S x 13 = 0) (q0 : qB0 S b x w t J0 fL fE fA fU fM P0 l0) (ql : qBl (zm S) b w t J0 fL fE fA fU fM) (ext : ∀ j, j < J0 → gL j = fL j ∧ gE j = fE j ∧ gA j = fA j ∧ gU j = fU j ∧ gM j = fM j) (A : qAdC S Z C x a w t J0 n fW fd fs fb fm gL gE gA gU gM) (hM : qu (qu C 4 1 0) 102 0 v = M) (R : qAdR (qu M 37 0 0) mR b J0 n t0 fp fW fd fs fb fm) (Cl : ∀ z, z < 103 → C z = zm S z) (x103 : 103 ≤ x) (a103 : 103 ≤ a) (pa30 : zm S (a + 3) 0 = a + 4) : qHC (qW Z (qu mR 37 2 0)) := by
  obtain ⟨⟨A1, -, -⟩, Ak, Am, Ar, ⟨Ax, Ax7⟩, Al, Aw, ⟨P, l, Acb⟩⟩ := A
  obtain ⟨R1, ⟨R2, R2'⟩, R3, R4, R5⟩ := R
  have hn0 := hH.1.1.1.2.2.2
  obtain ⟨M0, hM0⟩ : ∃ M0, qu M 37 0 0 = M0 := ⟨_, rfl⟩
  rw [hM0] at R1 R2' R3 R4
  have Mo : ∀ z, z ≠ 4 → z ≠ 102 → M z = C z := fun z h1 h2 => by rw [← hM, qu_o _ _ _ _ _ h2, qu_o _ _ _ _ _ h1]
  have Ml : ∀ z, z < 102 → z ≠ 4 → M z = zm S z := fun z h1 h2 => by rw [Mo z h2 (by omega), Cl z (by omega)]
  have M0o : ∀ z, z ≠ 37 → M0 z = M z := fun z hz => by rw [← hM0, qu_o _ _ _ _ _ hz]
  have M0i : ∀ j, j ≠ 0 → M0 37 j = zm S 37 j := fun j hj => by rw [← hM0, qu_i _ _ _ _ _ hj, Ml 37 (by decide) (by decide)]
  obtain ⟨mF, hmF⟩ : ∃ mF, qu mR 37 2 0 = mF := ⟨_, rfl⟩
  rw [hmF]
  have Fo : ∀ z, z ≠ 37 → mF z = mR z := fun z hz => by rw [← hmF, qu_o _ _ _ _ _ hz]
  have Fi : ∀ j, j ≠ 2 → mF 37 j = mR 37 j := fun j hj => by rw [← hmF, qu_i _ _ _ _ _ hj]
  have Fh : ∀ z, 103 ≤ z → mF z = C z := fun z hz => by
    rw [Fo z (by omega), show mR z = M0 z from funext fun j => R1 z j (by omega), M0o z (by omega), Mo z (by omega) (by omega)]
  refine q_add_T (P := P) (l := l) hH H n1 h13 q0 ql ext (by omega) Ak (fun z j hz he => ?_) ?_ ?_ ⟨?_, fun b' hb' => ?_⟩ (fun z q hz hq => ?_) (fun q hq => ?_) (fun k hk' => ?_) ?_ (fun j => ?_) (fun k hk' => ?_) ?_
  · by_cases z103 : z < 103
    · by_cases z37 : z = 37
      · subst z37
        rw [Fi j (by omega), R1 37 j (by omega), M0i j (by omega)]
      · rw [Fo z z37, R1 z j (by omega), M0o z z37]
        by_cases z4 : z = 4
        · subst z4
          rw [← hM, qu_o _ _ _ _ _ (by decide), qu_i _ _ _ _ _ (by omega), Cl 4 (by decide)]
        · rw [Ml z (by omega) z4]
    · rw [Fh z (by omega)]
      by_cases zx : z = x
      · rw [zx]
        rw [zx] at he
        exact Ax j (by omega) (by omega) (by omega) (by omega) (by omega) (by omega) (by omega)
      · by_cases za : z = a + 3
        · rw [za]
          rw [za] at he
          have j0 : j = 0 := by omega
          rw [j0, Ar, pa30]
        · rw [Am z hz zx (by omega) (by omega) za (by omega)]
  · rw [Fo 4 (by decide), R1 4 1 (by omega), M0o 4 (by decide), ← hM, qu_o _ _ _ _ _ (by decide), qu_s]
  · rw [← hmF, qu_s]
  · rw [Fo 54 (by decide), R2]
  · rw [Fo 54 (by decide), R2' b' hb', M0o 54 (by decide), Ml 54 (by decide) (by decide)]
  · rw [Fo z (by omega), R3 z q hz hq, M0o z (by omega), Ml z (by omega) (by omega)]
  · rw [Fo 58 (by decide), R4 q hq, M0o 58 (by decide), Ml 58 (by decide) (by decide)]
  · obtain ⟨⟨u1, u2, u3, u4, u5, u6⟩, u7⟩ := R5 k hk'
    exact ⟨⟨by rw [Fo 55 (by decide), u1], by rw [Fo 56 (by decide), u2], by rw [Fo 57 (by decide), u3], by rw [Fo 59 (by decide), u4], by rw [Fo 60 (by decide), u5], fun j j1 j2 => by rw [Fo 58 (by decide), u6 j j1 j2]⟩, by rw [Fo 61 (by decide), u7]⟩
  · rw [Fh x x103, Ax7]
  · rw [Fh _ (by omega), Al]
  · obtain ⟨u1, u2, u3, u4⟩ := Aw k hk'
    obtain ⟨Y, hYk⟩ : ∃ Y, (zn S : Int) + 6 * k = Y := ⟨_, rfl⟩
    rw [hYk] at u1 u2 u3 u4 ⊢
    have eo : ∀ z, Y ≤ z → z ≤ Y + 5 → mF z = C z := fun z z1 z2 => Fh z (by omega)
    exact ⟨qWb_w (S := qW Z C) (S' := qW Z mF) u1 ⟨Nat.le_refl _, fun _ _ => rfl⟩ eo, qSq_o u2 (eo _ (by omega) (by omega)) (eo _ (by omega) (by omega)), qWp_o u3 (eo _ (by omega) (by omega)) (eo _ (by omega) (by omega)) (eo _ (by omega) (by omega)), qBw_w u4 (eo _ (by omega) (by omega))⟩
  · exact qCB_o Acb (fun j _ => by rw [Fh x x103]) (Fh _ (by omega))
end
theorem q_add_y (e : Nat) (S : zS) (b x : Int) (n : Nat) (he : 14 ≤ e) (hH : qHC S) (hb : 0 ≤ b ∧ b < zm S 37 16) (hx : zm S 8 b = x) (hf : qtf (zm S 38) (zm S 37 2) = -1) (hn : qcw (zm S 38) (zm S 37 2).toNat = (n : Int)) (h80 : zm S 54 b + n ≤ 80) (h13 : zm S x 13 = 0) :
    qUn vi qid (qG5 S) S (zD (e + 1) 132 [vr 3, vi b] S) (zD (e + 1) 255 [vr 37, vi b]) qps3 := by
  obtain ⟨⟨⟨⟨hK, hP, hL, hn0⟩, ⟨hRT, hC, hR, hk⟩, ⟨p1, p2, p3, p4, p5, p6⟩, hY⟩, hBB⟩, hYC, hFc⟩ := id hH
  have b4 : b < 4 := by have := hY.1.2; omega
  obtain ⟨⟨kx, kx1, kx2, x103, xn⟩, ⟨-, x1a, c1, c2⟩, -, ⟨-, wr⟩, ⟨-, tr⟩, -, -, ⟨x7J, n54⟩, -⟩ := hY.2.1 b hb.1 hb.2
  rw [hx] at kx kx1 kx2 x103 xn x1a x7J
  obtain ⟨cb, co, tk, -⟩ := qRC_1 hC c1 c2
  obtain ⟨J0, fL, fE, fA, fU, fM, P0, l0, q0, ql⟩ := hBB b hb.1 hb.2
  rw [hx] at q0
  have hJ0 : zm S 54 b = (J0 : Int) := q0.1.1
  have n1 : 0 < n := by
    have := (qcw_r (zm S 38) (zm S 37 2).toNat).1
    omega
  obtain ⟨fp, fW, fd, fs, fb, fm, fp0, tx⟩ := qTx_ex (zm S 38) (zm S 37 2) hRT.2.1 hRT.2.2.2 n 0 (Int.le_refl 0) hRT.2.1.1 (by rw [Int.sub_zero]; exact hf) (by rw [hn]; show (n : Int) = n - 1 + 1; omega)
  obtain ⟨pp, hpp⟩ : ∃ pp : Nat → Nat, ∀ i : Nat, qPw (zm S) (fW i) (fd i) = (pp i : Int) ∧ (pp i = 0 ∨ qPk (pp i) (fW i).length) := ⟨fun i => Classical.choose (qPw_p hk hR.2.1.1 (fW i) (fd i)), fun i => Classical.choose_spec (qPw_p hk hR.2.1.1 (fW i) (fd i))⟩
  obtain ⟨a, ha⟩ : ∃ a, zm S 6 (zm S 49 b) = a := ⟨_, rfl⟩
  obtain ⟨Tq, hTq⟩ : ∃ Tq, qTm (zm S) (zm S 49 b) = Tq := ⟨_, rfl⟩
  obtain ⟨Nc, hNc⟩ : ∃ Nc, zm S 39 (zm S 49 b) = Nc := ⟨_, rfl⟩
  obtain ⟨g, hg⟩ : ∃ g, zm S 50 b = g := ⟨_, rfl⟩
  obtain ⟨w, hw⟩ : ∃ w, zm S 51 b = w := ⟨_, rfl⟩
  obtain ⟨t, ht⟩ : ∃ t, zm S 52 b = t := ⟨_, rfl⟩
  rw [ha] at x1a cb
  rw [hw, ht] at q0 ql
  obtain ⟨gL, hgL⟩ : ∃ f : Nat → List Int, (fun j => if j < J0 then fL j else qwL Tq Nc g (fW (j - J0)) (pp (j - J0)) (fd (j - J0)) (fs (j - J0)) (fb (j - J0)) (qmc (fm (j - J0)))) = f := ⟨_, rfl⟩
  obtain ⟨gE, hgE⟩ : ∃ f : Nat → List Int, (fun j => if j < J0 then fE j else qwE Tq Nc g (fW (j - J0)) (pp (j - J0)) (fd (j - J0)) (fs (j - J0)) (fb (j - J0))) = f := ⟨_, rfl⟩
  obtain ⟨gU, hgU⟩ : ∃ f : Nat → Int, (fun j => if j < J0 then fU j else qwU Tq Nc g (fW (j - J0)) (pp (j - J0)) (fd (j - J0))) = f := ⟨_, rfl⟩
  obtain ⟨gM, hgM⟩ : ∃ f : Nat → Int, (fun j => if j < J0 then fM j else qwM Tq Nc g (fW (j - J0)) (pp (j - J0)) (fd (j - J0))) = f := ⟨_, rfl⟩
  obtain ⟨gA, hgA⟩ : ∃ f : Nat → Int, (fun j => if j < J0 then fA j else qah_ (zm S 38) (fp (j - J0)) (j - J0)) = f := ⟨_, rfl⟩
  have ext : ∀ j, j < J0 → gL j = fL j ∧ gE j = fE j ∧ gA j = fA j ∧ gU j = fU j ∧ gM j = fM j := fun j hj => by
    rw [← hgL, ← hgE, ← hgA, ← hgU, ← hgM]
    exact ⟨if_pos hj, if_pos hj, if_pos hj, if_pos hj, if_pos hj⟩
  have new : ∀ i : Nat, gL (J0 + i) = qwL Tq Nc g (fW i) (pp i) (fd i) (fs i) (fb i) (qmc (fm i)) ∧ gE (J0 + i) = qwE Tq Nc g (fW i) (pp i) (fd i) (fs i) (fb i) ∧ gU (J0 + i) = qwU Tq Nc g (fW i) (pp i) (fd i) ∧ gM (J0 + i) = qwM Tq Nc g (fW i) (pp i) (fd i) ∧ gA (J0 + i) = qah_ (zm S 38) (fp i) i := fun i => by
    have e : J0 + i - J0 = i := by omega
    have hn : ¬ J0 + i < J0 := by omega
    rw [← hgL, ← hgE, ← hgA, ← hgU, ← hgM]
    simp only [if_neg hn, e, and_self]
  have oldo := qB_J q0
  have H : qAdH S b x (zm S 49 b) a g w t Nc Tq J0 n (zm S 38) (zm S 37 2) fp fW fd fs fb fm pp gL gE gA gU gM := by
    refine ⟨⟨hb, hx, rfl, ha, hg, hw, ht, hNc, hTq⟩, ⟨hJ0, by omega⟩, ⟨rfl, rfl⟩, ⟨tx, fp0⟩, fun i hi => ⟨(hpp i).1, (hpp i).2, ?_⟩, fun i _ => new i, fun j hj => ?_, fun hj => ?_⟩
    · rw [← (hpp i).1]
      exact qPw_4 hR _ _ (tx i hi).2.2.2.1.1.1
    · obtain ⟨g1, g2, g3, -⟩ := ext j hj
      rw [g1, g2, g3]
      exact oldo j hj
    · rw [(ext 0 hj).2.2.1]
      exact q0.1.2.2 hj
  have ecb : qZn w t gL gE gA J0 = qZn w t fL fE fA J0 := qZn_c (w := w) (t := t) J0 fun i hi => ⟨(ext i hi).1, (ext i hi).2.1, (ext i hi).2.2.1⟩
  have he13 : 13 ≤ e := by omega
  obtain ⟨Z, C, cls, A⟩ := q_add_c e he13 hH H hf hn h13 (by rw [ecb]; exact q0.2.2)
  have A0 := A
  obtain ⟨⟨A1, A2, A3⟩, Ak, Am, -⟩ := A
  have hKZ : qK Z := qK_g hK hn0 Ak
  have a103 := cb.2.2.2.2.2.2.2.2.2.1
  have pa30 := cb.2.2.2.2.2.2.2.2.1
  have Cl : ∀ z, z < 103 → C z = zm S z := q_add_l hn0 x103 a103 Am
  have Ak3 : ∀ z : Int, z < 103 → zk Z z = zk S z := fun z hz => Ak z (Int.lt_of_lt_of_le hz hn0)
  refine Or.inl ⟨(J0 : Int) + n, _, cls, ⟨?_, Ak3⟩, ?_⟩
  · show qu C 4 1 0 1 = zm S 1
    rw [qu_o _ _ _ _ _ (by decide), Cl 1 (by decide)]
  obtain ⟨v, hv⟩ : ∃ v, (J0 : Int) + n = v := ⟨_, rfl⟩
  obtain ⟨M, hM⟩ : ∃ M, qu (qu C 4 1 0) 102 0 (qid v) = M := ⟨_, rfl⟩
  have hq1 : qo (qW Z (qu C 4 1 0)) (qid v) = qW Z M := by rw [← hM]; rfl
  have Mo : ∀ z, z ≠ 4 → z ≠ 102 → M z = C z := fun z h1 h2 => by rw [← hM, qu_o _ _ _ _ _ h2, qu_o _ _ _ _ _ h1]
  have Ml : ∀ z, z < 102 → z ≠ 4 → M z = zm S z := q_add_m Mo Cl
  have hPM : qP M := q_add_P hP hM Cl Ml
  obtain ⟨mR, rr, R⟩ := q_add_r e he13 hH H hf hn n1 h13 Z M hKZ hPM Ml
  have HC := q_add_h hH H n1 h13 q0 ql ext A0 hM R Cl x103 a103 pa30
  obtain ⟨R1, -⟩ := R
  obtain ⟨M0, hM0⟩ : ∃ M0, qu M 37 0 0 = M0 := ⟨_, rfl⟩
  rw [hM0] at R1
  have M0i : ∀ j, j ≠ 0 → M0 37 j = zm S 37 j := fun j hj => by rw [← hM0, qu_i _ _ _ _ _ hj, Ml 37 (by decide) (by decide)]
  obtain ⟨mF, hmF⟩ : ∃ mF, qu mR 37 2 0 = mF := ⟨_, rfl⟩
  rw [hmF] at rr HC
  have Fi : ∀ j, j ≠ 2 → mF 37 j = mR 37 j := fun j hj => by rw [← hmF, qu_i _ _ _ _ _ hj]
  have Fo : ∀ z, z ≠ 37 → mF z = mR z := fun z hz => by rw [← hmF, qu_o _ _ _ _ _ hz]
  have R37 : ∀ j, j = 0 ∨ j = 16 ∨ j = 50 ∨ j = 65 → mF 37 j = M0 37 j := fun j hj => q_add_37 Fi R1 hj
  have M00 : M0 37 0 = 0 := by rw [← hM0, qu_s]
  have n30 : 2 * (n : Int) ≤ 61 := by
    rcases qTx_2 tx fp0 n (Nat.le_refl _) with ⟨y1, y2⟩ | y
    · have := hRT.2.1
      clear H A0 HC ext new hpp
      omega
    · exact absurd y (Nat.pos_iff_ne_zero.mp n1)
  rw [hv, hq1]
  rw [hv] at rr
  refine ⟨qW Z mF, rr, ⟨?_, Ak3⟩, ?_, ?_, ⟨HC, ?_, ?_⟩, Or.inl ?_, Int.le_of_eq ?_⟩
  · show mF 1 = zm S 1
    rw [Fo 1 (by decide), show mR 1 = M0 1 from funext fun j => R1 1 j (q_add_1 j 1 (Or.inl rfl)), ← hM0, qu_o _ _ _ _ _ (by decide), Ml 1 (by decide) (by decide)]
  · show mF 37 0 = 0
    rw [R37 0 (Or.inl rfl), M00]
  · show mF 102 0 = _
    rw [Fo 102 (by decide), R1 102 0 (q_add_1 0 102 (Or.inr rfl)), ← hM0, qu_o _ _ _ _ _ (by decide), ← hM, qu_s]
  · show zc Z ≤ zc S + 500
    exact q_add_z A2 n30
  · show ((zw Z : Nat) : Int) ≤ zw S + 2000 + 15000 * ((mF 37 16 + mF 37 65) - (zm S 37 16 + zm S 37 65))
    rw [R37 16 (by decide), M0i 16 (by decide), R37 65 (by decide), M0i 65 (by decide)]
    exact q_add_w A3 n30
  · show mF 37 50 = zm S 37 50
    rw [R37 50 (by decide), M0i 50 (by decide)]
  · show zm S 37 16 = mF 37 16
    rw [R37 16 (by decide), M0i 16 (by decide)]
theorem q_add (d : Nat) (S : zS) (b : Int) (h : 15 ≤ d) (hH : qHC S) :
    qUn vi qid (qG5 S) S (zD d 132 [vr 3, vi b] S) (zD d 255 [vr 37, vi b]) qps3 := by
  obtain ⟨⟨⟨⟨hK, hP, hL, hn0⟩, ⟨hRT, hC, hR, hk⟩, ⟨p1, p2, p3, p4, p5, p6⟩, hY⟩, hBB⟩, hYC, hFc⟩ := id hH
  by_cases c1 : 0 ≤ b ∧ b < zm S 37 16
  · obtain ⟨e, rfl, he⟩ := qd h
    have hKb : qK (zbump S) := hK
    have b4 : b < 4 := by have := hY.1.2; omega
    have bo := s_bookOf_y e S b (by omega) hK hP hY.1 c1
    have fa := s_faultAsText' e S (by omega) hK hP hRT
    have wt := r_wordsOfTape e (zbump S) (by omega) hK hP hRT
    rw [show zm (zbump S) 38 = zm S 38 from rfl, show zm (zbump S) 37 2 = zm S 37 2 from rfl] at wt
    have ib := r_isbook_y e (zbump S) b (by omega) hK hY.1.2 c1
    obtain ⟨⟨kx, -⟩, -, -, -, -, -, -, ⟨x7J, n54⟩, -⟩ := hY.2.1 b c1.1 c1.2
    by_cases c2 : qtf (zm S 38) (zm S 37 2) = -1
    · rw [if_pos c2] at wt
      have cw := s_countWords e S (zm S 37 2) (by omega) hK (P_4_0 hP) hRT.1 hRT.2.1
      rw [qcw_e hRT.2.2.1 hRT.2.1.1] at cw
      obtain ⟨n, hn⟩ : ∃ n : Nat, qcw (zm S 38) (zm S 37 2).toNat = (n : Int) := ⟨(qcw (zm S 38) (zm S 37 2).toNat).toNat, by have := (qcw_r (zm S 38) (zm S 37 2).toNat).1; omega⟩
      have n1 := qcw_r (zm S 38) (zm S 37 2).toNat
      rw [hn] at wt cw n1
      by_cases c3 : zm S 54 b + n ≤ 80 ∧ zm S (zm S 8 b) 13 = 0
      · exact q_add_y e S b _ n he hH c1 rfl c2 hn c3.1 c3.2
      · have e13 := hYC.1 b c1.1 c1.2
        have r13 := qbn_r (zm S) b (zm S 37 65).toNat
        have cp := r_copiesOf e (zbump S) b (by omega) hK hP p4.1.2
        rw [show qbn (zm (zbump S)) b (zm (zbump S) 37 65).toNat = zm S (zm S 8 b) 13 from e13.symm] at cp
        have p22 : zm (zbump S) 37 22 = 54 := P_37_22 hP
        have hd := r_refuse e S 3 (by omega) hK (by decide)
        have nn : ¬ (n : Int) = 0 := by omega
        have N60 := hRT.2.1
        have zz : z32 (zm S 54 b + (n : Int)) = zm S 54 b + n := q32 (by omega)
        have e54 : zm (zbump S) 54 b = zm S 54 b := rfl
        refine qUn_n5 hH ⟨1, ?_, ?_, by decide⟩
        · by_cases c4 : 80 < zm S 54 b + n
          · simp (config := { maxSteps := 2000000 }) (disch := first | omega | (simp only [K_3 hK, K_4 hK, P_3_0 hP, kx, qb_in, qkW, qmW, qnW, true_and, and_true, or_self, true_or, or_true, and_self]; done) | (simp only [K_3 hK, K_4 hK, P_3_0 hP, kx, qb_in, qkW, qmW, qnW, true_and, and_true, or_self, true_or, or_true, and_self]; omega)) only [zD_132, b132_0, b132_5, b132_13, b132_17, b132_28, b132_39, b132_45, b132_52, b132_63, b132_70, b132_87, b132_94, b132_110, b132_124, b132_129, b132_141, b132_154, b132_156, b132_167, qcall_l, qcall_r, qretn_l, qJ_s, qJ_n, qV0, qEx, ↓qif0, ↓zchk_pos, ↓reduceIte, qput, qWW, qmW, qkW, qnW, K_3 hK, K_4 hK, P_3_0 hP, bo, fa, c2, kx, cw, x7J, zz, if_pos c4]
          · simp (config := { maxSteps := 2000000 }) (disch := first | omega | (simp only [K_3 hK, K_4 hK, P_3_0 hP, kx, qb_in, qkW, qmW, qnW, true_and, and_true, or_self, true_or, or_true, and_self]; done) | (simp only [K_3 hK, K_4 hK, P_3_0 hP, kx, qb_in, qkW, qmW, qnW, true_and, and_true, or_self, true_or, or_true, and_self]; omega)) only [zD_132, b132_0, b132_5, b132_13, b132_17, b132_28, b132_39, b132_45, b132_52, b132_63, b132_70, b132_87, b132_94, b132_110, b132_124, b132_129, b132_141, b132_154, b132_156, b132_167, qcall_l, qcall_r, qretn_l, qJ_s, qJ_n, qV0, qEx, ↓qif0, ↓zchk_pos, ↓reduceIte, qput, qWW, qmW, qkW, qnW, K_3 hK, K_4 hK, P_3_0 hP, bo, fa, c2, kx, cw, x7J, zz, if_neg c4, if_pos (show 0 < zm S (zm S 8 b) 13 by omega)]
        · by_cases c4 : 80 < zm S 54 b + n
          · simp (config := { maxSteps := 2000000 }) (disch := first | omega | (simp only [K_37 hKb, K_54 hKb, p22, c1.1, b4, qb_in, qkW, qmW, qnW, true_and, and_true, or_self, true_or, or_true, and_self]; done) | (simp only [K_37 hKb, K_54 hKb, p22, c1.1, b4, qb_in, qkW, qmW, qnW, true_and, and_true, or_self, true_or, or_true, and_self]; omega)) only [zD_255, b255_0, b255_4, b255_10, b255_16, b255_20, b255_24, b255_28, b255_41, b255_46, b255_49, b255_53, b255_54, b255_57, b255_60, b255_62, b255_77, b255_83, b255_98, b255_116, b255_135, b255_153, b255_174, b255_192, b255_200, b255_213, b255_216, b255_221, b255_225, b255_231, b255_236, b255_240, b255_241, b255_255, qcall_l, qcall_r, qretn_l, qJ_s, qJ_n, qV0, qEx, ↓qif0, ↓zchk_pos, ↓reduceIte, qput, qWW, qmW, qkW, qnW, K_37 hKb, K_54 hKb, wt, ib, if_neg nn, p22, e54, zz, if_pos c4, hd, Int.reduceEq]
            rfl
          · simp (config := { maxSteps := 2000000 }) (disch := first | omega | (simp only [K_37 hKb, K_54 hKb, p22, c1.1, b4, qb_in, qkW, qmW, qnW, true_and, and_true, or_self, true_or, or_true, and_self]; done) | (simp only [K_37 hKb, K_54 hKb, p22, c1.1, b4, qb_in, qkW, qmW, qnW, true_and, and_true, or_self, true_or, or_true, and_self]; omega)) only [zD_255, b255_0, b255_4, b255_10, b255_16, b255_20, b255_24, b255_28, b255_41, b255_46, b255_49, b255_53, b255_54, b255_57, b255_60, b255_62, b255_77, b255_83, b255_98, b255_116, b255_135, b255_153, b255_174, b255_192, b255_200, b255_213, b255_216, b255_221, b255_225, b255_231, b255_236, b255_240, b255_241, b255_255, qcall_l, qcall_r, qretn_l, qJ_s, qJ_n, qV0, qEx, ↓qif0, ↓zchk_pos, ↓reduceIte, qput, qWW, qmW, qkW, qnW, K_37 hKb, K_54 hKb, wt, ib, if_neg nn, p22, e54, zz, if_neg c4, cp, if_pos (show 0 < zm S (zm S 8 b) 13 by omega), hd, Int.reduceEq]
            rfl
    · rw [if_neg c2] at wt
      have hd := r_refuse e S 2 (by omega) hK (by decide)
      refine qUn_n5 hH ⟨0, ?_, ?_, by decide⟩
      · simp (config := { maxSteps := 2000000 }) (disch := first | omega | (simp only [K_3 hK, K_4 hK, P_3_0 hP, qb_in, qkW, qmW, qnW, true_and, and_true, or_self, true_or, or_true, and_self]; done) | (simp only [K_3 hK, K_4 hK, P_3_0 hP, qb_in, qkW, qmW, qnW, true_and, and_true, or_self, true_or, or_true, and_self]; omega)) only [zD_132, b132_0, b132_5, b132_13, b132_17, b132_28, b132_39, b132_45, b132_52, b132_63, b132_70, b132_87, b132_94, b132_110, b132_124, b132_129, b132_141, b132_154, b132_156, b132_167, qcall_l, qcall_r, qretn_l, qJ_s, qJ_n, qV0, qEx, ↓qif0, ↓zchk_pos, ↓reduceIte, qput, qWW, qmW, qkW, qnW, K_3 hK, K_4 hK, P_3_0 hP, bo, fa, if_neg c2]
      · simp (config := { maxSteps := 2000000 }) (disch := first | omega | (simp only [K_37 hKb, qb_in, qkW, qmW, qnW, true_and, and_true, or_self, true_or, or_true, and_self]; done) | (simp only [K_37 hKb, qb_in, qkW, qmW, qnW, true_and, and_true, or_self, true_or, or_true, and_self]; omega)) only [zD_255, b255_0, b255_4, b255_10, b255_16, b255_20, b255_24, b255_28, b255_41, b255_46, b255_49, b255_53, b255_54, b255_57, b255_60, b255_62, b255_77, b255_83, b255_98, b255_116, b255_135, b255_153, b255_174, b255_192, b255_200, b255_213, b255_216, b255_221, b255_225, b255_231, b255_236, b255_240, b255_241, b255_255, qcall_l, qcall_r, qretn_l, qJ_s, qJ_n, qV0, qEx, ↓qif0, ↓zchk_pos, ↓reduceIte, qput, qWW, qmW, qkW, qnW, K_37 hKb, wt, ib, hd, Int.reduceEq]
        rfl
  · exact qUn_n5 hH (q_add_n d S b (by omega) hK hP hRT hY.1 c1)
